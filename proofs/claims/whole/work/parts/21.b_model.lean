set_option maxHeartbeats 4000000 in
set_option maxRecDepth 100000 in
theorem e11_in {d : Nat} {Th : mT} {Q : Int32 → mM → Prop} {x0 : Int32} {x1 : Int32} {x2 : Int32} {M : mM} (h : m_bool ((if x0 < x1 then 0 else (if x2 < x0 then 0 else 1))) ∧ Q ((if x0 < x1 then 0 else (if x2 < x0 then 0 else 1))) M) : P11_in (d + 1) Th x0 x1 x2 M Q := by
  refine m_C.of (by decide +kernel) (Nat.le_of_ble_eq_true rfl) ?_
  show m_W (d + 1) 0 0 yX11_in cX11_in 3 (some .boolean) (m_qi Th Q) 0 [(0, .int x0), (1, .int x1), (2, .int x2)] [] Th M 0 0
  refine m_iload_n dX11_in_0 rfl 0 rfl ?_
  refine m_iload_n dX11_in_1 rfl 1 rfl ?_
  have hJ : m_W (d + 1) 0 0 yX11_in cX11_in 3 (some .boolean) (m_qi Th Q) 15 [(0, .int x0), (1, .int x1), (2, .int x2)] [.int ((if x0 < x1 then 0 else (if x2 < x0 then 0 else 1)))] Th M 0 0 := by
    exact m_ireturn dX11_in_15 rfl h.1 ⟨rfl, _, rfl, h.2⟩
  refine m_icmp_lt (tgt := 14) dX11_in_2 (by decide) (fun c1 => ?_) (fun c1 => ?_)
  · simp only [if_pos c1] at hJ
    refine m_iconst (v := 0) dX11_in_14 (by decide) ?_
    exact hJ
  · simp only [if_neg c1] at hJ
    refine m_iload_n dX11_in_5 rfl 0 rfl ?_
    refine m_iload_n dX11_in_6 rfl 2 rfl ?_
    refine m_icmp_gt (tgt := 14) dX11_in_7 (by decide) (fun c2 => ?_) (fun c2 => ?_)
    · simp only [if_pos c2] at hJ
      refine m_iconst (v := 0) dX11_in_14 (by decide) ?_
      exact hJ
    · simp only [if_neg c2] at hJ
      refine m_iconst (v := 1) dX11_in_10 (by decide) ?_
      refine m_goto (tgt := 15) dX11_in_11 (by decide) ?_
      exact hJ
set_option maxHeartbeats 4000000 in
set_option maxRecDepth 100000 in
theorem e11_isBand {d : Nat} {Th : mT} {Q : Int32 → mM → Prop} {a0 : Nat} {x1 : Int32} {M : mM} (h : if x1 < 0 then (Q 0 M) else (Th.2.2 a0 = some (.inl 11) ∧ (m_bool ((if ((M).1 a0 1) ≤ x1 then 0 else 1)) ∧ Q ((if ((M).1 a0 1) ≤ x1 then 0 else 1)) M))) : P11_isBand (d + 1) Th a0 x1 M Q := by
  refine m_C.of (by decide +kernel) (Nat.le_of_ble_eq_true rfl) ?_
  show m_W (d + 1) 0 0 yX11_isBand cX11_isBand 2 (some .boolean) (m_qi Th Q) 0 [(0, .ref a0), (1, .int x1)] [] Th M 0 0
  refine m_iload_n dX11_isBand_0 rfl 1 rfl ?_
  refine m_if_lt (tgt := 16) dX11_isBand_1 (by decide) (fun c1 => ?_) (fun c1 => ?_)
  · rw [if_pos c1] at h
    refine m_iconst (v := 0) dX11_isBand_16 (by decide) ?_
    exact m_ireturn dX11_isBand_17 rfl (by decide) ⟨rfl, _, rfl, h⟩
  · rw [if_neg c1] at h
    refine m_iload_n dX11_isBand_4 rfl 1 rfl ?_
    refine m_aload_n dX11_isBand_5 rfl 0 rfl ?_
    obtain ⟨q1, h⟩ := h
    refine m_geti f_X11_138 rfl dX11_isBand_6 q1 ?_
    have hJ : m_W (d + 1) 0 0 yX11_isBand cX11_isBand 2 (some .boolean) (m_qi Th Q) 17 [(0, .ref a0), (1, .int x1)] [.int ((if ((M).1 a0 1) ≤ x1 then 0 else 1))] Th M 0 0 := by
      exact m_ireturn dX11_isBand_17 rfl h.1 ⟨rfl, _, rfl, h.2⟩
    refine m_icmp_ge (tgt := 16) dX11_isBand_9 (by decide) (fun c1 => ?_) (fun c1 => ?_)
    · simp only [if_pos c1] at hJ
      refine m_iconst (v := 0) dX11_isBand_16 (by decide) ?_
      exact hJ
    · simp only [if_neg c1] at hJ
      refine m_iconst (v := 1) dX11_isBand_12 (by decide) ?_
      refine m_goto (tgt := 17) dX11_isBand_13 (by decide) ?_
      exact hJ
set_option maxHeartbeats 4000000 in
set_option maxRecDepth 100000 in
theorem e11_isRiddle {d : Nat} {Th : mT} {Q : Int32 → mM → Prop} {a0 : Nat} {x1 : Int32} {M : mM} (h : if x1 < 0 then (Q 0 M) else (Th.2.2 a0 = some (.inl 11) ∧ (m_bool ((if ((M).1 a0 0) ≤ x1 then 0 else 1)) ∧ Q ((if ((M).1 a0 0) ≤ x1 then 0 else 1)) M))) : P11_isRiddle (d + 1) Th a0 x1 M Q := by
  refine m_C.of (by decide +kernel) (Nat.le_of_ble_eq_true rfl) ?_
  show m_W (d + 1) 0 0 yX11_isRiddle cX11_isRiddle 2 (some .boolean) (m_qi Th Q) 0 [(0, .ref a0), (1, .int x1)] [] Th M 0 0
  refine m_iload_n dX11_isRiddle_0 rfl 1 rfl ?_
  refine m_if_lt (tgt := 16) dX11_isRiddle_1 (by decide) (fun c1 => ?_) (fun c1 => ?_)
  · rw [if_pos c1] at h
    refine m_iconst (v := 0) dX11_isRiddle_16 (by decide) ?_
    exact m_ireturn dX11_isRiddle_17 rfl (by decide) ⟨rfl, _, rfl, h⟩
  · rw [if_neg c1] at h
    refine m_iload_n dX11_isRiddle_4 rfl 1 rfl ?_
    refine m_aload_n dX11_isRiddle_5 rfl 0 rfl ?_
    obtain ⟨q1, h⟩ := h
    refine m_geti f_X11_141 rfl dX11_isRiddle_6 q1 ?_
    have hJ : m_W (d + 1) 0 0 yX11_isRiddle cX11_isRiddle 2 (some .boolean) (m_qi Th Q) 17 [(0, .ref a0), (1, .int x1)] [.int ((if ((M).1 a0 0) ≤ x1 then 0 else 1))] Th M 0 0 := by
      exact m_ireturn dX11_isRiddle_17 rfl h.1 ⟨rfl, _, rfl, h.2⟩
    refine m_icmp_ge (tgt := 16) dX11_isRiddle_9 (by decide) (fun c1 => ?_) (fun c1 => ?_)
    · simp only [if_pos c1] at hJ
      refine m_iconst (v := 0) dX11_isRiddle_16 (by decide) ?_
      exact hJ
    · simp only [if_neg c1] at hJ
      refine m_iconst (v := 1) dX11_isRiddle_12 (by decide) ?_
      refine m_goto (tgt := 17) dX11_isRiddle_13 (by decide) ?_
      exact hJ
set_option maxHeartbeats 4000000 in
set_option maxRecDepth 100000 in
theorem e11_areTwo {d : Nat} {Th : mT} {Q : Int32 → mM → Prop} {a0 : Nat} {x1 : Int32} {x2 : Int32} {M : mM} (h : Th.2.2 a0 = some (.inl 11) ∧ (P11_isBand d Th a0 x1 M (fun (v2 : Int32) (M1 : mM) => if v2 = 0 then (Q 0 M1) else (P11_isBand d Th a0 x2 M1 (fun (v5 : Int32) (M4 : mM) => if v5 = 0 then (Q 0 M4) else (if x1 = x2 then (Q 0 M4) else (m_bool ((if ((M4).1 a0 0) ≤ 0 then 0 else 1)) ∧ Q ((if ((M4).1 a0 0) ≤ 0 then 0 else 1)) M4))))))) : P11_areTwo (d + 1) Th a0 x1 x2 M Q := by
  refine m_C.of (by decide +kernel) (Nat.le_of_ble_eq_true rfl) ?_
  show m_W (d + 1) 0 0 yX11_areTwo cX11_areTwo 3 (some .boolean) (m_qi Th Q) 0 [(0, .ref a0), (1, .int x1), (2, .int x2)] [] Th M 0 0
  refine m_aload_n dX11_areTwo_0 rfl 0 rfl ?_
  refine m_iload_n dX11_areTwo_1 rfl 1 rfl ?_
  obtain ⟨q3, h⟩ := h
  refine m_invV (ci := 11) (As := [.int x1]) (d' := d) (mc' := 0) (ms' := 0) (rest := []) i_11_isBand v_11_isBand t_11_isBand l_X11_144 ⟨_, _, rfl⟩ dX11_areTwo_2 rfl rfl q3 (Nat.le_of_ble_eq_true rfl) (Nat.le_refl _) ⟨Nat.le_refl _, Nat.le_refl _⟩ (m_Ci h (fun v2 M1 h => ?_))
  show m_W (d + 1) 0 0 yX11_areTwo cX11_areTwo 3 (some .boolean) (m_qi Th Q) 5 [(0, .ref a0), (1, .int x1), (2, .int x2)] [.int v2] Th M1 0 0
  refine m_if_eq (tgt := 32) dX11_areTwo_5 (by decide) (fun c1 => ?_) (fun c1 => ?_)
  · rw [if_pos c1] at h
    refine m_iconst (v := 0) dX11_areTwo_32 (by decide) ?_
    exact m_ireturn dX11_areTwo_33 rfl (by decide) ⟨rfl, _, rfl, h⟩
  · rw [if_neg c1] at h
    refine m_aload_n dX11_areTwo_8 rfl 0 rfl ?_
    refine m_iload_n dX11_areTwo_9 rfl 2 rfl ?_
    refine m_invV (ci := 11) (As := [.int x2]) (d' := d) (mc' := 0) (ms' := 0) (rest := []) i_11_isBand v_11_isBand t_11_isBand l_X11_144 ⟨_, _, rfl⟩ dX11_areTwo_10 rfl rfl q3 (Nat.le_of_ble_eq_true rfl) (Nat.le_refl _) ⟨Nat.le_refl _, Nat.le_refl _⟩ (m_Ci h (fun v5 M4 h => ?_))
    show m_W (d + 1) 0 0 yX11_areTwo cX11_areTwo 3 (some .boolean) (m_qi Th Q) 13 [(0, .ref a0), (1, .int x1), (2, .int x2)] [.int v5] Th M4 0 0
    refine m_if_eq (tgt := 32) dX11_areTwo_13 (by decide) (fun c1 => ?_) (fun c1 => ?_)
    · rw [if_pos c1] at h
      refine m_iconst (v := 0) dX11_areTwo_32 (by decide) ?_
      exact m_ireturn dX11_areTwo_33 rfl (by decide) ⟨rfl, _, rfl, h⟩
    · rw [if_neg c1] at h
      refine m_iload_n dX11_areTwo_16 rfl 1 rfl ?_
      refine m_iload_n dX11_areTwo_17 rfl 2 rfl ?_
      refine m_icmp_eq (tgt := 32) dX11_areTwo_18 (by decide) (fun c1 => ?_) (fun c1 => ?_)
      · rw [if_pos c1] at h
        refine m_iconst (v := 0) dX11_areTwo_32 (by decide) ?_
        exact m_ireturn dX11_areTwo_33 rfl (by decide) ⟨rfl, _, rfl, h⟩
      · rw [if_neg c1] at h
        refine m_aload_n dX11_areTwo_21 rfl 0 rfl ?_
        refine m_geti f_X11_141 rfl dX11_areTwo_22 q3 ?_
        have hJ : m_W (d + 1) 0 0 yX11_areTwo cX11_areTwo 3 (some .boolean) (m_qi Th Q) 33 [(0, .ref a0), (1, .int x1), (2, .int x2)] [.int ((if ((M4).1 a0 0) ≤ 0 then 0 else 1))] Th M4 0 0 := by
          exact m_ireturn dX11_areTwo_33 rfl h.1 ⟨rfl, _, rfl, h.2⟩
        refine m_if_le (tgt := 32) dX11_areTwo_25 (by decide) (fun c1 => ?_) (fun c1 => ?_)
        · simp only [if_pos c1] at hJ
          refine m_iconst (v := 0) dX11_areTwo_32 (by decide) ?_
          exact hJ
        · simp only [if_neg c1] at hJ
          refine m_iconst (v := 1) dX11_areTwo_28 (by decide) ?_
          refine m_goto (tgt := 33) dX11_areTwo_29 (by decide) ?_
          exact hJ
set_option maxHeartbeats 4000000 in
set_option maxRecDepth 100000 in
theorem e11_riddle {d : Nat} {Th : mT} {Q : Int32 → mM → Prop} {a0 : Nat} {x1 : Int32} {x2 : Int32} {x3 : Int32} {M : mM} (h : P11_in d Th x1 0 9 M (fun (v2 : Int32) (M1 : mM) => if v2 = 0 then (Q (-1) M1) else (P11_in d Th x2 0 30 M1 (fun (v4 : Int32) (M3 : mM) => if v4 = 0 then (Q (-1) M3) else (P11_in d Th x3 0 30 M3 (fun (v6 : Int32) (M5 : mM) => if v6 = 0 then (Q (-1) M5) else (Th.2.2 a0 = some (.inl 11) ∧ (if ((M5).1 a0 0) = 5 then (Q (-1) M5) else (∃ r8 : Nat, M5.2.2 a0 5 = some r8 ∧ (m_okw Th r8 .int (((M5).1 a0 0)) ∧ (∃ r11 : Nat, M5.2.2 a0 6 = some r11 ∧ (∀ M13 : mM, M13 = m_ui M5 r8 (Int32.toNatClampNeg (((M5).1 a0 0))) x1 → m_okw Th r11 .int ((((M13).1 a0 0) + 1)) ∧ (∃ r15 : Nat, M5.2.2 a0 7 = some r15 ∧ (∀ M17 : mM, M17 = m_ui M13 r11 (Int32.toNatClampNeg ((((M13).1 a0 0) + 1))) x2 → m_okw Th r15 .int ((((M17).1 a0 0) + 1)) ∧ (∀ M19 : mM, M19 = m_ui M17 r15 (Int32.toNatClampNeg ((((M17).1 a0 0) + 1))) x3 → ∀ M20 : mM, M20 = m_ui M19 a0 0 ((((M19).1 a0 0) + 1)) → P11_clears d Th a0 (m_ui M20 a0 56 0) (fun (v22 : Int32) (M21 : mM) => Q ((((M21).1 a0 0) - 1)) M21)))))))))))))))) : P11_riddle (d + 1) Th a0 x1 x2 x3 M Q := by
  refine m_C.of (by decide +kernel) (Nat.le_of_ble_eq_true rfl) ?_
  show m_W (d + 1) 0 0 yX11_riddle cX11_riddle 4 (some .int) (m_qi Th Q) 0 [(0, .ref a0), (1, .int x1), (2, .int x2), (3, .int x3)] [] Th M 0 0
  refine m_iload_n dX11_riddle_0 rfl 1 rfl ?_
  refine m_iconst (v := 0) dX11_riddle_1 (by decide) ?_
  refine m_bipush (v := 9) dX11_riddle_2 (by decide) ?_
  refine m_invS (As := [.int x1, .int 0, .int 9]) (d' := d) (mc' := 0) (ms' := 0) (rest := []) i_11_in s_11_in l_X11_148 dX11_riddle_4 rfl rfl (Nat.le_of_ble_eq_true rfl) (Nat.le_refl _) ⟨Nat.le_refl _, Nat.le_refl _⟩ (m_Ci h (fun v2 M1 h => ?_))
  show m_W (d + 1) 0 0 yX11_riddle cX11_riddle 4 (some .int) (m_qi Th Q) 7 [(0, .ref a0), (1, .int x1), (2, .int x2), (3, .int x3)] [.int v2] Th M1 0 0
  refine m_if_eq (tgt := 38) dX11_riddle_7 (by decide) (fun c1 => ?_) (fun c1 => ?_)
  · rw [if_pos c1] at h
    refine m_iconst (v := (-1)) dX11_riddle_38 (by decide) ?_
    exact m_ireturn dX11_riddle_39 rfl rfl ⟨rfl, _, rfl, h⟩
  · rw [if_neg c1] at h
    refine m_iload_n dX11_riddle_10 rfl 2 rfl ?_
    refine m_iconst (v := 0) dX11_riddle_11 (by decide) ?_
    refine m_bipush (v := 30) dX11_riddle_12 (by decide) ?_
    refine m_invS (As := [.int x2, .int 0, .int 30]) (d' := d) (mc' := 0) (ms' := 0) (rest := []) i_11_in s_11_in l_X11_148 dX11_riddle_14 rfl rfl (Nat.le_of_ble_eq_true rfl) (Nat.le_refl _) ⟨Nat.le_refl _, Nat.le_refl _⟩ (m_Ci h (fun v4 M3 h => ?_))
    show m_W (d + 1) 0 0 yX11_riddle cX11_riddle 4 (some .int) (m_qi Th Q) 17 [(0, .ref a0), (1, .int x1), (2, .int x2), (3, .int x3)] [.int v4] Th M3 0 0
    refine m_if_eq (tgt := 38) dX11_riddle_17 (by decide) (fun c1 => ?_) (fun c1 => ?_)
    · rw [if_pos c1] at h
      refine m_iconst (v := (-1)) dX11_riddle_38 (by decide) ?_
      exact m_ireturn dX11_riddle_39 rfl rfl ⟨rfl, _, rfl, h⟩
    · rw [if_neg c1] at h
      refine m_iload_n dX11_riddle_20 rfl 3 rfl ?_
      refine m_iconst (v := 0) dX11_riddle_21 (by decide) ?_
      refine m_bipush (v := 30) dX11_riddle_22 (by decide) ?_
      refine m_invS (As := [.int x3, .int 0, .int 30]) (d' := d) (mc' := 0) (ms' := 0) (rest := []) i_11_in s_11_in l_X11_148 dX11_riddle_24 rfl rfl (Nat.le_of_ble_eq_true rfl) (Nat.le_refl _) ⟨Nat.le_refl _, Nat.le_refl _⟩ (m_Ci h (fun v6 M5 h => ?_))
      show m_W (d + 1) 0 0 yX11_riddle cX11_riddle 4 (some .int) (m_qi Th Q) 27 [(0, .ref a0), (1, .int x1), (2, .int x2), (3, .int x3)] [.int v6] Th M5 0 0
      refine m_if_eq (tgt := 38) dX11_riddle_27 (by decide) (fun c1 => ?_) (fun c1 => ?_)
      · rw [if_pos c1] at h
        refine m_iconst (v := (-1)) dX11_riddle_38 (by decide) ?_
        exact m_ireturn dX11_riddle_39 rfl rfl ⟨rfl, _, rfl, h⟩
      · rw [if_neg c1] at h
        refine m_aload_n dX11_riddle_30 rfl 0 rfl ?_
        obtain ⟨q7, h⟩ := h
        refine m_geti f_X11_141 rfl dX11_riddle_31 q7 ?_
        refine m_iconst (v := 5) dX11_riddle_34 (by decide) ?_
        refine m_icmp_ne (tgt := 40) dX11_riddle_35 (by decide) (fun c1 => ?_) (fun c1 => ?_)
        · rw [if_neg c1] at h
          refine m_aload_n dX11_riddle_40 rfl 0 rfl ?_
          obtain ⟨r8, q9, h⟩ := h
          refine m_getr f_X11_7 rfl dX11_riddle_41 q7 q9 ?_
          refine m_aload_n dX11_riddle_44 rfl 0 rfl ?_
          refine m_geti f_X11_141 rfl dX11_riddle_45 q7 ?_
          refine m_iload_n dX11_riddle_48 rfl 1 rfl ?_
          obtain ⟨q10, h⟩ := h
          refine m_iast dX11_riddle_49 q10 ?_
          refine m_aload_n dX11_riddle_50 rfl 0 rfl ?_
          obtain ⟨r11, q12, h⟩ := h
          refine m_getr f_X11_13 rfl dX11_riddle_51 q7 q12 ?_
          refine m_aload_n dX11_riddle_54 rfl 0 rfl ?_
          obtain ⟨M13, e_M13⟩ : ∃ M13 : mM, M13 = m_ui M5 r8 (Int32.toNatClampNeg (((M5).1 a0 0))) x1 := ⟨_, rfl⟩
          have h := h M13 e_M13
          rw [← e_M13]
          refine m_geti f_X11_141 rfl dX11_riddle_55 q7 ?_
          refine m_iconst (v := 1) dX11_riddle_58 (by decide) ?_
          refine m_iadd dX11_riddle_59 ?_
          refine m_iload_n dX11_riddle_60 rfl 2 rfl ?_
          obtain ⟨q14, h⟩ := h
          refine m_iast dX11_riddle_61 q14 ?_
          refine m_aload_n dX11_riddle_62 rfl 0 rfl ?_
          obtain ⟨r15, q16, h⟩ := h
          refine m_getr f_X11_16 rfl dX11_riddle_63 q7 (by rw [e_M13]; exact q16) ?_
          refine m_aload_n dX11_riddle_66 rfl 0 rfl ?_
          obtain ⟨M17, e_M17⟩ : ∃ M17 : mM, M17 = m_ui M13 r11 (Int32.toNatClampNeg ((((M13).1 a0 0) + 1))) x2 := ⟨_, rfl⟩
          have h := h M17 e_M17
          rw [← e_M17]
          refine m_geti f_X11_141 rfl dX11_riddle_67 q7 ?_
          refine m_iconst (v := 1) dX11_riddle_70 (by decide) ?_
          refine m_iadd dX11_riddle_71 ?_
          refine m_iload_n dX11_riddle_72 rfl 3 rfl ?_
          obtain ⟨q18, h⟩ := h
          refine m_iast dX11_riddle_73 q18 ?_
          refine m_aload_n dX11_riddle_74 rfl 0 rfl ?_
          refine m_aload_n dX11_riddle_75 rfl 0 rfl ?_
          obtain ⟨M19, e_M19⟩ : ∃ M19 : mM, M19 = m_ui M17 r15 (Int32.toNatClampNeg ((((M17).1 a0 0) + 1))) x3 := ⟨_, rfl⟩
          have h := h M19 e_M19
          rw [← e_M19]
          refine m_geti f_X11_141 rfl dX11_riddle_76 q7 ?_
          refine m_iconst (v := 1) dX11_riddle_79 (by decide) ?_
          refine m_iadd dX11_riddle_80 ?_
          refine m_puti f_X11_141 rfl (Or.inl rfl) dX11_riddle_81 q7 ⟨rfl, rfl⟩ ?_
          refine m_aload_n dX11_riddle_84 rfl 0 rfl ?_
          refine m_iconst (v := 0) dX11_riddle_85 (by decide) ?_
          obtain ⟨M20, e_M20⟩ : ∃ M20 : mM, M20 = m_ui M19 a0 0 ((((M19).1 a0 0) + 1)) := ⟨_, rfl⟩
          have h := h M20 e_M20
          rw [← e_M20]
          refine m_puti f_X11_152 rfl (Or.inl rfl) dX11_riddle_86 q7 ⟨rfl, rfl⟩ ?_
          refine m_aload_n dX11_riddle_89 rfl 0 rfl ?_
          refine m_invV (ci := 11) (As := []) (d' := d) (mc' := 0) (ms' := 0) (rest := []) i_11_clears v_11_clears t_11_clears l_X11_155 ⟨_, _, rfl⟩ dX11_riddle_90 rfl rfl q7 (Nat.le_of_ble_eq_true rfl) (Nat.le_refl _) ⟨Nat.le_refl _, Nat.le_refl _⟩ (m_Ci h (fun v22 M21 h => ?_))
          show m_W (d + 1) 0 0 yX11_riddle cX11_riddle 4 (some .int) (m_qi Th Q) 93 [(0, .ref a0), (1, .int x1), (2, .int x2), (3, .int x3)] [.int v22] Th M21 0 0
          refine m_pop dX11_riddle_93 rfl ?_
          refine m_aload_n dX11_riddle_94 rfl 0 rfl ?_
          refine m_geti f_X11_141 rfl dX11_riddle_95 q7 ?_
          refine m_iconst (v := 1) dX11_riddle_98 (by decide) ?_
          refine m_isub dX11_riddle_99 ?_
          exact m_ireturn dX11_riddle_100 rfl rfl ⟨rfl, _, rfl, h⟩
        · rw [if_pos c1] at h
          refine m_iconst (v := (-1)) dX11_riddle_38 (by decide) ?_
          exact m_ireturn dX11_riddle_39 rfl rfl ⟨rfl, _, rfl, h⟩
set_option maxHeartbeats 4000000 in
set_option maxRecDepth 100000 in
theorem e11_band {d : Nat} {Th : mT} {Q : Int32 → mM → Prop} {a0 : Nat} {x1 : Int32} {x2 : Int32} {x3 : Int32} {M : mM} (h : P11_in d Th x1 0 9 M (fun (v2 : Int32) (M1 : mM) => if v2 = 0 then (Q (-1) M1) else (P11_in d Th x2 1 9 M1 (fun (v4 : Int32) (M3 : mM) => if v4 = 0 then (Q (-1) M3) else (P11_in d Th x3 0 1 M3 (fun (v6 : Int32) (M5 : mM) => if v6 = 0 then (Q (-1) M5) else (Th.2.2 a0 = some (.inl 11) ∧ (if ((M5).1 a0 1) = 5 then (Q (-1) M5) else (∃ r8 : Nat, M5.2.2 a0 8 = some r8 ∧ (m_okw Th r8 .int (((M5).1 a0 1)) ∧ (∃ r11 : Nat, M5.2.2 a0 9 = some r11 ∧ (∀ M13 : mM, M13 = m_ui M5 r8 (Int32.toNatClampNeg (((M5).1 a0 1))) x1 → m_okw Th r11 .int (((M13).1 a0 1)) ∧ (∃ r15 : Nat, M5.2.2 a0 10 = some r15 ∧ (∀ M17 : mM, M17 = m_ui M13 r11 (Int32.toNatClampNeg (((M13).1 a0 1))) x2 → m_okw Th r15 .int (((M17).1 a0 1)) ∧ (∀ M19 : mM, M19 = m_ui M17 r15 (Int32.toNatClampNeg (((M17).1 a0 1))) x3 → P11_clears d Th a0 (m_ui M19 a0 1 ((((M19).1 a0 1) + 1))) (fun (v21 : Int32) (M20 : mM) => Q ((((M20).1 a0 1) - 1)) M20)))))))))))))))) : P11_band (d + 1) Th a0 x1 x2 x3 M Q := by
  refine m_C.of (by decide +kernel) (Nat.le_of_ble_eq_true rfl) ?_
  show m_W (d + 1) 0 0 yX11_band cX11_band 4 (some .int) (m_qi Th Q) 0 [(0, .ref a0), (1, .int x1), (2, .int x2), (3, .int x3)] [] Th M 0 0
  refine m_iload_n dX11_band_0 rfl 1 rfl ?_
  refine m_iconst (v := 0) dX11_band_1 (by decide) ?_
  refine m_bipush (v := 9) dX11_band_2 (by decide) ?_
  refine m_invS (As := [.int x1, .int 0, .int 9]) (d' := d) (mc' := 0) (ms' := 0) (rest := []) i_11_in s_11_in l_X11_148 dX11_band_4 rfl rfl (Nat.le_of_ble_eq_true rfl) (Nat.le_refl _) ⟨Nat.le_refl _, Nat.le_refl _⟩ (m_Ci h (fun v2 M1 h => ?_))
  show m_W (d + 1) 0 0 yX11_band cX11_band 4 (some .int) (m_qi Th Q) 7 [(0, .ref a0), (1, .int x1), (2, .int x2), (3, .int x3)] [.int v2] Th M1 0 0
  refine m_if_eq (tgt := 37) dX11_band_7 (by decide) (fun c1 => ?_) (fun c1 => ?_)
  · rw [if_pos c1] at h
    refine m_iconst (v := (-1)) dX11_band_37 (by decide) ?_
    exact m_ireturn dX11_band_38 rfl rfl ⟨rfl, _, rfl, h⟩
  · rw [if_neg c1] at h
    refine m_iload_n dX11_band_10 rfl 2 rfl ?_
    refine m_iconst (v := 1) dX11_band_11 (by decide) ?_
    refine m_bipush (v := 9) dX11_band_12 (by decide) ?_
    refine m_invS (As := [.int x2, .int 1, .int 9]) (d' := d) (mc' := 0) (ms' := 0) (rest := []) i_11_in s_11_in l_X11_148 dX11_band_14 rfl rfl (Nat.le_of_ble_eq_true rfl) (Nat.le_refl _) ⟨Nat.le_refl _, Nat.le_refl _⟩ (m_Ci h (fun v4 M3 h => ?_))
    show m_W (d + 1) 0 0 yX11_band cX11_band 4 (some .int) (m_qi Th Q) 17 [(0, .ref a0), (1, .int x1), (2, .int x2), (3, .int x3)] [.int v4] Th M3 0 0
    refine m_if_eq (tgt := 37) dX11_band_17 (by decide) (fun c1 => ?_) (fun c1 => ?_)
    · rw [if_pos c1] at h
      refine m_iconst (v := (-1)) dX11_band_37 (by decide) ?_
      exact m_ireturn dX11_band_38 rfl rfl ⟨rfl, _, rfl, h⟩
    · rw [if_neg c1] at h
      refine m_iload_n dX11_band_20 rfl 3 rfl ?_
      refine m_iconst (v := 0) dX11_band_21 (by decide) ?_
      refine m_iconst (v := 1) dX11_band_22 (by decide) ?_
      refine m_invS (As := [.int x3, .int 0, .int 1]) (d' := d) (mc' := 0) (ms' := 0) (rest := []) i_11_in s_11_in l_X11_148 dX11_band_23 rfl rfl (Nat.le_of_ble_eq_true rfl) (Nat.le_refl _) ⟨Nat.le_refl _, Nat.le_refl _⟩ (m_Ci h (fun v6 M5 h => ?_))
      show m_W (d + 1) 0 0 yX11_band cX11_band 4 (some .int) (m_qi Th Q) 26 [(0, .ref a0), (1, .int x1), (2, .int x2), (3, .int x3)] [.int v6] Th M5 0 0
      refine m_if_eq (tgt := 37) dX11_band_26 (by decide) (fun c1 => ?_) (fun c1 => ?_)
      · rw [if_pos c1] at h
        refine m_iconst (v := (-1)) dX11_band_37 (by decide) ?_
        exact m_ireturn dX11_band_38 rfl rfl ⟨rfl, _, rfl, h⟩
      · rw [if_neg c1] at h
        refine m_aload_n dX11_band_29 rfl 0 rfl ?_
        obtain ⟨q7, h⟩ := h
        refine m_geti f_X11_138 rfl dX11_band_30 q7 ?_
        refine m_iconst (v := 5) dX11_band_33 (by decide) ?_
        refine m_icmp_ne (tgt := 39) dX11_band_34 (by decide) (fun c1 => ?_) (fun c1 => ?_)
        · rw [if_neg c1] at h
          refine m_aload_n dX11_band_39 rfl 0 rfl ?_
          obtain ⟨r8, q9, h⟩ := h
          refine m_getr f_X11_19 rfl dX11_band_40 q7 q9 ?_
          refine m_aload_n dX11_band_43 rfl 0 rfl ?_
          refine m_geti f_X11_138 rfl dX11_band_44 q7 ?_
          refine m_iload_n dX11_band_47 rfl 1 rfl ?_
          obtain ⟨q10, h⟩ := h
          refine m_iast dX11_band_48 q10 ?_
          refine m_aload_n dX11_band_49 rfl 0 rfl ?_
          obtain ⟨r11, q12, h⟩ := h
          refine m_getr f_X11_22 rfl dX11_band_50 q7 q12 ?_
          refine m_aload_n dX11_band_53 rfl 0 rfl ?_
          obtain ⟨M13, e_M13⟩ : ∃ M13 : mM, M13 = m_ui M5 r8 (Int32.toNatClampNeg (((M5).1 a0 1))) x1 := ⟨_, rfl⟩
          have h := h M13 e_M13
          rw [← e_M13]
          refine m_geti f_X11_138 rfl dX11_band_54 q7 ?_
          refine m_iload_n dX11_band_57 rfl 2 rfl ?_
          obtain ⟨q14, h⟩ := h
          refine m_iast dX11_band_58 q14 ?_
          refine m_aload_n dX11_band_59 rfl 0 rfl ?_
          obtain ⟨r15, q16, h⟩ := h
          refine m_getr f_X11_25 rfl dX11_band_60 q7 (by rw [e_M13]; exact q16) ?_
          refine m_aload_n dX11_band_63 rfl 0 rfl ?_
          obtain ⟨M17, e_M17⟩ : ∃ M17 : mM, M17 = m_ui M13 r11 (Int32.toNatClampNeg (((M13).1 a0 1))) x2 := ⟨_, rfl⟩
          have h := h M17 e_M17
          rw [← e_M17]
          refine m_geti f_X11_138 rfl dX11_band_64 q7 ?_
          refine m_iload_n dX11_band_67 rfl 3 rfl ?_
          obtain ⟨q18, h⟩ := h
          refine m_iast dX11_band_68 q18 ?_
          refine m_aload_n dX11_band_69 rfl 0 rfl ?_
          refine m_aload_n dX11_band_70 rfl 0 rfl ?_
          obtain ⟨M19, e_M19⟩ : ∃ M19 : mM, M19 = m_ui M17 r15 (Int32.toNatClampNeg (((M17).1 a0 1))) x3 := ⟨_, rfl⟩
          have h := h M19 e_M19
          rw [← e_M19]
          refine m_geti f_X11_138 rfl dX11_band_71 q7 ?_
          refine m_iconst (v := 1) dX11_band_74 (by decide) ?_
          refine m_iadd dX11_band_75 ?_
          refine m_puti f_X11_138 rfl (Or.inl rfl) dX11_band_76 q7 ⟨rfl, rfl⟩ ?_
          refine m_aload_n dX11_band_79 rfl 0 rfl ?_
          refine m_invV (ci := 11) (As := []) (d' := d) (mc' := 0) (ms' := 0) (rest := []) i_11_clears v_11_clears t_11_clears l_X11_155 ⟨_, _, rfl⟩ dX11_band_80 rfl rfl q7 (Nat.le_of_ble_eq_true rfl) (Nat.le_refl _) ⟨Nat.le_refl _, Nat.le_refl _⟩ (m_Ci h (fun v21 M20 h => ?_))
          show m_W (d + 1) 0 0 yX11_band cX11_band 4 (some .int) (m_qi Th Q) 83 [(0, .ref a0), (1, .int x1), (2, .int x2), (3, .int x3)] [.int v21] Th M20 0 0
          refine m_pop dX11_band_83 rfl ?_
          refine m_aload_n dX11_band_84 rfl 0 rfl ?_
          refine m_geti f_X11_138 rfl dX11_band_85 q7 ?_
          refine m_iconst (v := 1) dX11_band_88 (by decide) ?_
          refine m_isub dX11_band_89 ?_
          exact m_ireturn dX11_band_90 rfl rfl ⟨rfl, _, rfl, h⟩
        · rw [if_pos c1] at h
          refine m_iconst (v := (-1)) dX11_band_37 (by decide) ?_
          exact m_ireturn dX11_band_38 rfl rfl ⟨rfl, _, rfl, h⟩
set_option maxHeartbeats 4000000 in
set_option maxRecDepth 100000 in
theorem e11_weather {d : Nat} {Th : mT} {Q : Int32 → mM → Prop} {a0 : Nat} {x1 : Int32} {x2 : Int32} {M : mM} (h : P11_in d Th x1 1 4 M (fun (v2 : Int32) (M1 : mM) => if v2 = 0 then (Q 0 M1) else (P11_in d Th x2 0 1 M1 (fun (v4 : Int32) (M3 : mM) => if v4 = 0 then (Q 0 M3) else (Th.2.2 a0 = some (.inl 11) ∧ (∀ M6 : mM, M6 = m_ui M3 a0 2 x1 → Q 1 (m_ui M6 a0 3 x2))))))) : P11_weather (d + 1) Th a0 x1 x2 M Q := by
  refine m_C.of (by decide +kernel) (Nat.le_of_ble_eq_true rfl) ?_
  show m_W (d + 1) 0 0 yX11_weather cX11_weather 3 (some .boolean) (m_qi Th Q) 0 [(0, .ref a0), (1, .int x1), (2, .int x2)] [] Th M 0 0
  refine m_iload_n dX11_weather_0 rfl 1 rfl ?_
  refine m_iconst (v := 1) dX11_weather_1 (by decide) ?_
  refine m_iconst (v := 4) dX11_weather_2 (by decide) ?_
  refine m_invS (As := [.int x1, .int 1, .int 4]) (d' := d) (mc' := 0) (ms' := 0) (rest := []) i_11_in s_11_in l_X11_148 dX11_weather_3 rfl rfl (Nat.le_of_ble_eq_true rfl) (Nat.le_refl _) ⟨Nat.le_refl _, Nat.le_refl _⟩ (m_Ci h (fun v2 M1 h => ?_))
  show m_W (d + 1) 0 0 yX11_weather cX11_weather 3 (some .boolean) (m_qi Th Q) 6 [(0, .ref a0), (1, .int x1), (2, .int x2)] [.int v2] Th M1 0 0
  refine m_if_eq (tgt := 18) dX11_weather_6 (by decide) (fun c1 => ?_) (fun c1 => ?_)
  · rw [if_pos c1] at h
    refine m_iconst (v := 0) dX11_weather_18 (by decide) ?_
    exact m_ireturn dX11_weather_19 rfl (by decide) ⟨rfl, _, rfl, h⟩
  · rw [if_neg c1] at h
    refine m_iload_n dX11_weather_9 rfl 2 rfl ?_
    refine m_iconst (v := 0) dX11_weather_10 (by decide) ?_
    refine m_iconst (v := 1) dX11_weather_11 (by decide) ?_
    refine m_invS (As := [.int x2, .int 0, .int 1]) (d' := d) (mc' := 0) (ms' := 0) (rest := []) i_11_in s_11_in l_X11_148 dX11_weather_12 rfl rfl (Nat.le_of_ble_eq_true rfl) (Nat.le_refl _) ⟨Nat.le_refl _, Nat.le_refl _⟩ (m_Ci h (fun v4 M3 h => ?_))
    show m_W (d + 1) 0 0 yX11_weather cX11_weather 3 (some .boolean) (m_qi Th Q) 15 [(0, .ref a0), (1, .int x1), (2, .int x2)] [.int v4] Th M3 0 0
    refine m_if_ne (tgt := 20) dX11_weather_15 (by decide) (fun c1 => ?_) (fun c1 => ?_)
    · rw [if_neg c1] at h
      refine m_aload_n dX11_weather_20 rfl 0 rfl ?_
      refine m_iload_n dX11_weather_21 rfl 1 rfl ?_
      obtain ⟨q5, h⟩ := h
      refine m_puti f_X11_131 rfl (Or.inl rfl) dX11_weather_22 q5 ⟨rfl, rfl⟩ ?_
      refine m_aload_n dX11_weather_25 rfl 0 rfl ?_
      refine m_iload_n dX11_weather_26 rfl 2 rfl ?_
      obtain ⟨M6, e_M6⟩ : ∃ M6 : mM, M6 = m_ui M3 a0 2 x1 := ⟨_, rfl⟩
      have h := h M6 e_M6
      rw [← e_M6]
      refine m_puti f_X11_159 rfl (Or.inl rfl) dX11_weather_27 q5 ⟨rfl, rfl⟩ ?_
      refine m_iconst (v := 1) dX11_weather_30 (by decide) ?_
      exact m_ireturn dX11_weather_31 rfl (by decide) ⟨rfl, _, rfl, h⟩
    · rw [if_pos c1] at h
      refine m_iconst (v := 0) dX11_weather_18 (by decide) ?_
      exact m_ireturn dX11_weather_19 rfl (by decide) ⟨rfl, _, rfl, h⟩
set_option maxHeartbeats 4000000 in
set_option maxRecDepth 100000 in
theorem e11_apart {d : Nat} {Th : mT} {Q : Int32 → mM → Prop} {x0 : Int32} {x1 : Int32} {M : mM} (h : Q ((if x1 ≤ x0 then (x0 - x1) else (x1 - x0))) M) : P11_apart (d + 1) Th x0 x1 M Q := by
  refine m_C.of (by decide +kernel) (Nat.le_of_ble_eq_true rfl) ?_
  show m_W (d + 1) 0 0 yX11_apart cX11_apart 2 (some .int) (m_qi Th Q) 0 [(0, .int x0), (1, .int x1)] [] Th M 0 0
  refine m_iload_n dX11_apart_0 rfl 0 rfl ?_
  refine m_iload_n dX11_apart_1 rfl 1 rfl ?_
  have hJ : m_W (d + 1) 0 0 yX11_apart cX11_apart 2 (some .int) (m_qi Th Q) 14 [(0, .int x0), (1, .int x1)] [.int ((if x1 ≤ x0 then (x0 - x1) else (x1 - x0)))] Th M 0 0 := by
    exact m_ireturn dX11_apart_14 rfl rfl ⟨rfl, _, rfl, h⟩
  refine m_icmp_ge (tgt := 11) dX11_apart_2 (by decide) (fun c1 => ?_) (fun c1 => ?_)
  · simp only [if_pos c1] at hJ
    refine m_iload_n dX11_apart_11 rfl 0 rfl ?_
    refine m_iload_n dX11_apart_12 rfl 1 rfl ?_
    refine m_isub dX11_apart_13 ?_
    exact hJ
  · simp only [if_neg c1] at hJ
    refine m_iload_n dX11_apart_5 rfl 1 rfl ?_
    refine m_iload_n dX11_apart_6 rfl 0 rfl ?_
    refine m_isub dX11_apart_7 ?_
    refine m_goto (tgt := 14) dX11_apart_8 (by decide) ?_
    exact hJ
set_option maxHeartbeats 4000000 in
set_option maxRecDepth 100000 in
theorem e11_walkOf {d : Nat} {Th : mT} {Q : Int32 → mM → Prop} {a0 : Nat} {x1 : Int32} {x2 : Int32} {M : mM} (h : Th.2.2 a0 = some (.inl 11) ∧ (∃ r2 : Nat, M.2.2 a0 6 = some r2 ∧ (m_ok Th r2 .int x2 ∧ (m_ok Th r2 .int ((x2 + 1)) ∧ (P11_apart d Th (((M).1 r2 (Int32.toNatClampNeg x2))) (((M).1 r2 (Int32.toNatClampNeg ((x2 + 1))))) M (fun (v7 : Int32) (M6 : mM) => ∃ r8 : Nat, M6.2.2 a0 7 = some r8 ∧ (m_ok Th r8 .int x2 ∧ (m_ok Th r8 .int ((x2 + 1)) ∧ (P11_apart d Th (((M6).1 r8 (Int32.toNatClampNeg x2))) (((M6).1 r8 (Int32.toNatClampNeg ((x2 + 1))))) M6 (fun (v13 : Int32) (M12 : mM) => ∀ xv14 : Int32, xv14 = (v7 + v13) → ∃ r15 : Nat, M12.2.2 a0 9 = some r15 ∧ (m_ok Th r15 .int x1 ∧ (¬ (((M12).1 r15 (Int32.toNatClampNeg x1)) = 0) ∧ (∀ xv19 : Int32, xv19 = (((xv14 + ((M12).1 r15 (Int32.toNatClampNeg x1))) - 1) / ((M12).1 r15 (Int32.toNatClampNeg x1))) → Q ((if 1 ≤ xv19 then (if xv19 ≤ 6 then xv19 else 6) else 1)) M12))))))))))))) : P11_walkOf (d + 1) Th a0 x1 x2 M Q := by
  refine m_C.of (by decide +kernel) (Nat.le_of_ble_eq_true rfl) ?_
  show m_W (d + 1) 0 0 yX11_walkOf cX11_walkOf 5 (some .int) (m_qi Th Q) 0 [(0, .ref a0), (1, .int x1), (2, .int x2)] [] Th M 0 0
  refine m_aload_n dX11_walkOf_0 rfl 0 rfl ?_
  obtain ⟨q1, h⟩ := h
  obtain ⟨r2, q3, h⟩ := h
  refine m_getr f_X11_13 rfl dX11_walkOf_1 q1 q3 ?_
  refine m_iload_n dX11_walkOf_4 rfl 2 rfl ?_
  obtain ⟨q4, h⟩ := h
  refine m_iald dX11_walkOf_5 q4 ?_
  refine m_aload_n dX11_walkOf_6 rfl 0 rfl ?_
  refine m_getr f_X11_13 rfl dX11_walkOf_7 q1 q3 ?_
  refine m_iload_n dX11_walkOf_10 rfl 2 rfl ?_
  refine m_iconst (v := 1) dX11_walkOf_11 (by decide) ?_
  refine m_iadd dX11_walkOf_12 ?_
  obtain ⟨q5, h⟩ := h
  refine m_iald dX11_walkOf_13 q5 ?_
  refine m_invS (As := [.int (((M).1 r2 (Int32.toNatClampNeg x2))), .int (((M).1 r2 (Int32.toNatClampNeg ((x2 + 1)))))]) (d' := d) (mc' := 0) (ms' := 0) (rest := []) i_11_apart s_11_apart l_X11_162 dX11_walkOf_14 rfl rfl (Nat.le_of_ble_eq_true rfl) (Nat.le_refl _) ⟨Nat.le_refl _, Nat.le_refl _⟩ (m_Ci h (fun v7 M6 h => ?_))
  show m_W (d + 1) 0 0 yX11_walkOf cX11_walkOf 5 (some .int) (m_qi Th Q) 17 [(0, .ref a0), (1, .int x1), (2, .int x2)] [.int v7] Th M6 0 0
  refine m_aload_n dX11_walkOf_17 rfl 0 rfl ?_
  obtain ⟨r8, q9, h⟩ := h
  refine m_getr f_X11_16 rfl dX11_walkOf_18 q1 q9 ?_
  refine m_iload_n dX11_walkOf_21 rfl 2 rfl ?_
  obtain ⟨q10, h⟩ := h
  refine m_iald dX11_walkOf_22 q10 ?_
  refine m_aload_n dX11_walkOf_23 rfl 0 rfl ?_
  refine m_getr f_X11_16 rfl dX11_walkOf_24 q1 q9 ?_
  refine m_iload_n dX11_walkOf_27 rfl 2 rfl ?_
  refine m_iconst (v := 1) dX11_walkOf_28 (by decide) ?_
  refine m_iadd dX11_walkOf_29 ?_
  obtain ⟨q11, h⟩ := h
  refine m_iald dX11_walkOf_30 q11 ?_
  refine m_invS (As := [.int (((M6).1 r8 (Int32.toNatClampNeg x2))), .int (((M6).1 r8 (Int32.toNatClampNeg ((x2 + 1)))))]) (d' := d) (mc' := 0) (ms' := 0) (rest := [.int v7]) i_11_apart s_11_apart l_X11_162 dX11_walkOf_31 rfl rfl (Nat.le_of_ble_eq_true rfl) (Nat.le_refl _) ⟨Nat.le_refl _, Nat.le_refl _⟩ (m_Ci h (fun v13 M12 h => ?_))
  show m_W (d + 1) 0 0 yX11_walkOf cX11_walkOf 5 (some .int) (m_qi Th Q) 34 [(0, .ref a0), (1, .int x1), (2, .int x2)] [.int v13, .int v7] Th M12 0 0
  refine m_iadd dX11_walkOf_34 ?_
  obtain ⟨xv14, e_xv14⟩ : ∃ xv14 : Int32, xv14 = (v7 + v13) := ⟨_, rfl⟩
  have h := h xv14 e_xv14
  rw [← e_xv14]
  refine m_istore_n (lv' := [(3, .int xv14), (0, .ref a0), (1, .int x1), (2, .int x2)]) dX11_walkOf_35 rfl (by decide) rfl ?_
  refine m_iload_n dX11_walkOf_36 rfl 0 rfl ?_
  refine m_aload_n dX11_walkOf_37 rfl 1 rfl ?_
  obtain ⟨r15, q16, h⟩ := h
  refine m_getr f_X11_22 rfl dX11_walkOf_38 q1 q16 ?_
  refine m_iload_n dX11_walkOf_41 rfl 2 rfl ?_
  obtain ⟨q17, h⟩ := h
  refine m_iald dX11_walkOf_42 q17 ?_
  refine m_iadd dX11_walkOf_43 ?_
  refine m_iconst (v := 1) dX11_walkOf_44 (by decide) ?_
  refine m_isub dX11_walkOf_45 ?_
  refine m_aload_n dX11_walkOf_46 rfl 1 rfl ?_
  refine m_getr f_X11_22 rfl dX11_walkOf_47 q1 q16 ?_
  refine m_iload_n dX11_walkOf_50 rfl 2 rfl ?_
  refine m_iald dX11_walkOf_51 q17 ?_
  obtain ⟨q18, h⟩ := h
  refine m_idiv dX11_walkOf_52 q18 ?_
  obtain ⟨xv19, e_xv19⟩ : ∃ xv19 : Int32, xv19 = (((xv14 + ((M12).1 r15 (Int32.toNatClampNeg x1))) - 1) / ((M12).1 r15 (Int32.toNatClampNeg x1))) := ⟨_, rfl⟩
  have h := h xv19 e_xv19
  rw [← e_xv19]
  refine m_istore (lv' := [(4, .int xv19), (3, .int xv14), (0, .ref a0), (1, .int x1), (2, .int x2)]) dX11_walkOf_53 (by decide) rfl ?_
  refine m_iload dX11_walkOf_55 0 rfl ?_
  refine m_iconst (v := 1) dX11_walkOf_57 (by decide) ?_
  have hJ : m_W (d + 1) 0 0 yX11_walkOf cX11_walkOf 5 (some .int) (m_qi Th Q) 79 [(4, .int xv19), (3, .int xv14), (0, .ref a0), (1, .int x1), (2, .int x2)] [.int ((if 1 ≤ xv19 then (if xv19 ≤ 6 then xv19 else 6) else 1))] Th M12 0 0 := by
    exact m_ireturn dX11_walkOf_79 rfl rfl ⟨rfl, _, rfl, h⟩
  refine m_icmp_ge (tgt := 65) dX11_walkOf_58 (by decide) (fun c1 => ?_) (fun c1 => ?_)
  · simp only [if_pos c1] at hJ
    refine m_iload dX11_walkOf_65 0 rfl ?_
    refine m_bipush (v := 6) dX11_walkOf_67 (by decide) ?_
    refine m_icmp_le (tgt := 77) dX11_walkOf_69 (by decide) (fun c2 => ?_) (fun c2 => ?_)
    · simp only [if_pos c2] at hJ
      refine m_iload dX11_walkOf_77 0 rfl ?_
      exact hJ
    · simp only [if_neg c2] at hJ
      refine m_bipush (v := 6) dX11_walkOf_72 (by decide) ?_
      refine m_goto (tgt := 79) dX11_walkOf_74 (by decide) ?_
      exact hJ
  · simp only [if_neg c1] at hJ
    refine m_iconst (v := 1) dX11_walkOf_61 (by decide) ?_
    refine m_goto (tgt := 79) dX11_walkOf_62 (by decide) ?_
    exact hJ
set_option maxHeartbeats 4000000 in
set_option maxRecDepth 100000 in
theorem e11_walk {d : Nat} {Th : mT} {Q : Int32 → mM → Prop} {a0 : Nat} {x1 : Int32} {x2 : Int32} {M : mM} (h : Th.2.2 a0 = some (.inl 11) ∧ (P11_isBand d Th a0 x1 M (fun (v2 : Int32) (M1 : mM) => if v2 = 0 then (Q (-1) M1) else (P11_isRiddle d Th a0 x2 M1 (fun (v5 : Int32) (M4 : mM) => if v5 = 0 then (Q (-1) M4) else (P11_walkOf d Th a0 x1 x2 M4 (fun (v7 : Int32) (M6 : mM) => Q v7 M6))))))) : P11_walk (d + 1) Th a0 x1 x2 M Q := by
  refine m_C.of (by decide +kernel) (Nat.le_of_ble_eq_true rfl) ?_
  show m_W (d + 1) 0 0 yX11_walk cX11_walk 3 (some .int) (m_qi Th Q) 0 [(0, .ref a0), (1, .int x1), (2, .int x2)] [] Th M 0 0
  refine m_aload_n dX11_walk_0 rfl 0 rfl ?_
  refine m_iload_n dX11_walk_1 rfl 1 rfl ?_
  obtain ⟨q3, h⟩ := h
  refine m_invV (ci := 11) (As := [.int x1]) (d' := d) (mc' := 0) (ms' := 0) (rest := []) i_11_isBand v_11_isBand t_11_isBand l_X11_144 ⟨_, _, rfl⟩ dX11_walk_2 rfl rfl q3 (Nat.le_of_ble_eq_true rfl) (Nat.le_refl _) ⟨Nat.le_refl _, Nat.le_refl _⟩ (m_Ci h (fun v2 M1 h => ?_))
  show m_W (d + 1) 0 0 yX11_walk cX11_walk 3 (some .int) (m_qi Th Q) 5 [(0, .ref a0), (1, .int x1), (2, .int x2)] [.int v2] Th M1 0 0
  refine m_if_eq (tgt := 25) dX11_walk_5 (by decide) (fun c1 => ?_) (fun c1 => ?_)
  · rw [if_pos c1] at h
    refine m_iconst (v := (-1)) dX11_walk_25 (by decide) ?_
    exact m_ireturn dX11_walk_26 rfl rfl ⟨rfl, _, rfl, h⟩
  · rw [if_neg c1] at h
    refine m_aload_n dX11_walk_8 rfl 0 rfl ?_
    refine m_iload_n dX11_walk_9 rfl 2 rfl ?_
    refine m_invV (ci := 11) (As := [.int x2]) (d' := d) (mc' := 0) (ms' := 0) (rest := []) i_11_isRiddle v_11_isRiddle t_11_isRiddle l_X11_166 ⟨_, _, rfl⟩ dX11_walk_10 rfl rfl q3 (Nat.le_of_ble_eq_true rfl) (Nat.le_refl _) ⟨Nat.le_refl _, Nat.le_refl _⟩ (m_Ci h (fun v5 M4 h => ?_))
    show m_W (d + 1) 0 0 yX11_walk cX11_walk 3 (some .int) (m_qi Th Q) 13 [(0, .ref a0), (1, .int x1), (2, .int x2)] [.int v5] Th M4 0 0
    refine m_if_eq (tgt := 25) dX11_walk_13 (by decide) (fun c1 => ?_) (fun c1 => ?_)
    · rw [if_pos c1] at h
      refine m_iconst (v := (-1)) dX11_walk_25 (by decide) ?_
      exact m_ireturn dX11_walk_26 rfl rfl ⟨rfl, _, rfl, h⟩
    · rw [if_neg c1] at h
      refine m_aload_n dX11_walk_16 rfl 0 rfl ?_
      refine m_iload_n dX11_walk_17 rfl 1 rfl ?_
      refine m_iload_n dX11_walk_18 rfl 2 rfl ?_
      refine m_invV (ci := 11) (As := [.int x1, .int x2]) (d' := d) (mc' := 0) (ms' := 0) (rest := []) i_11_walkOf v_11_walkOf t_11_walkOf l_X11_169 ⟨_, _, rfl⟩ dX11_walk_19 rfl rfl q3 (Nat.le_of_ble_eq_true rfl) (Nat.le_refl _) ⟨Nat.le_refl _, Nat.le_refl _⟩ (m_Ci h (fun v7 M6 h => ?_))
      show m_W (d + 1) 0 0 yX11_walk cX11_walk 3 (some .int) (m_qi Th Q) 22 [(0, .ref a0), (1, .int x1), (2, .int x2)] [.int v7] Th M6 0 0
      refine m_goto (tgt := 26) dX11_walk_22 (by decide) ?_
      exact m_ireturn dX11_walk_26 rfl rfl ⟨rfl, _, rfl, h⟩
set_option maxHeartbeats 4000000 in
set_option maxRecDepth 100000 in
theorem h11_types_2 {d : Nat} {Th : mT} {Q : mM → Prop} {a0 : Nat} {x1 : Int32} {x2 : Int32} {M : mM} (h : if x2 < 0 then (Q M) else (Th.2.2 a0 = some (.inl 11) ∧ (∃ r2 : Nat, M.2.2 a0 11 = some r2 ∧ (m_okw Th r2 .byte (((M).1 a0 12)) ∧ (∀ M5 : mM, M5 = m_ui M r2 (Int32.toNatClampNeg (((M).1 a0 12))) (Int32.toInt8 (((x1 >>> ((8 * x2) &&& 31)) : Int32).toInt8.toInt32)).toInt32 → H11_types_2 (d + 1) Th Q a0 x1 (x2 + (-1)) (m_ui M5 a0 12 ((((M5).1 a0 12) + 1)))))))) : H11_types_2 (d + 1) Th Q a0 x1 x2 M := by
  show m_W (d + 1) 0 0 yX11_types cX11_types 3 none (m_qv Th Q) 2 [(0, .ref a0), (1, .int x1), (2, .int x2)] [] Th M 0 0
  refine m_iload_n dX11_types_2 rfl 2 rfl ?_
  refine m_if_lt (tgt := 38) dX11_types_3 (by decide) (fun c1 => ?_) (fun c1 => ?_)
  · rw [if_pos c1] at h
    exact m_return dX11_types_38 rfl ⟨rfl, rfl, h⟩
  · rw [if_neg c1] at h
    refine m_aload_n dX11_types_6 rfl 0 rfl ?_
    obtain ⟨q1, h⟩ := h
    obtain ⟨r2, q3, h⟩ := h
    refine m_getr f_X11_28 rfl dX11_types_7 q1 q3 ?_
    refine m_aload_n dX11_types_10 rfl 0 rfl ?_
    refine m_geti f_X11_172 rfl dX11_types_11 q1 ?_
    refine m_iload_n dX11_types_14 rfl 1 rfl ?_
    refine m_bipush (v := 8) dX11_types_15 (by decide) ?_
    refine m_iload_n dX11_types_17 rfl 2 rfl ?_
    refine m_imul dX11_types_18 ?_
    refine m_ishr dX11_types_19 ?_
    refine m_i2b dX11_types_20 ?_
    obtain ⟨q4, h⟩ := h
    refine m_bast dX11_types_21 q4 ?_
    refine m_aload_n dX11_types_22 rfl 0 rfl ?_
    refine m_aload_n dX11_types_23 rfl 0 rfl ?_
    obtain ⟨M5, e_M5⟩ : ∃ M5 : mM, M5 = m_ui M r2 (Int32.toNatClampNeg (((M).1 a0 12))) (Int32.toInt8 (((x1 >>> ((8 * x2) &&& 31)) : Int32).toInt8.toInt32)).toInt32 := ⟨_, rfl⟩
    have h := h M5 e_M5
    rw [← e_M5]
    refine m_geti f_X11_172 rfl dX11_types_24 q1 ?_
    refine m_iconst (v := 1) dX11_types_27 (by decide) ?_
    refine m_iadd dX11_types_28 ?_
    refine m_puti f_X11_172 rfl (Or.inl rfl) dX11_types_29 q1 ⟨rfl, rfl⟩ ?_
    refine m_iinc (v := x2 + (-1)) (lv' := [(2, .int (x2 + (-1))), (0, .ref a0), (1, .int x1)]) dX11_types_32 2 rfl rfl (by decide) rfl ?_
    refine m_goto (tgt := 2) dX11_types_35 (by decide) ?_
    exact m_sub [1, 2, 0] rfl h
set_option maxHeartbeats 4000000 in
set_option maxRecDepth 100000 in
theorem e11_types {d : Nat} {Th : mT} {Q : mM → Prop} {a0 : Nat} {x1 : Int32} {M : mM} (h : H11_types_2 (d + 1) Th Q a0 x1 3 M) : P11_types (d + 1) Th a0 x1 M Q := by
  refine m_C.of (by decide +kernel) (Nat.le_of_ble_eq_true rfl) ?_
  show m_W (d + 1) 0 0 yX11_types cX11_types 3 none (m_qv Th Q) 0 [(0, .ref a0), (1, .int x1)] [] Th M 0 0
  refine m_iconst (v := 3) dX11_types_0 (by decide) ?_
  refine m_istore_n (lv' := [(2, .int 3), (0, .ref a0), (1, .int x1)]) dX11_types_1 rfl (by decide) rfl ?_
  exact m_sub [1, 2, 0] rfl h
set_option maxHeartbeats 4000000 in
set_option maxRecDepth 100000 in
theorem e11_feed {d : Nat} {Th : mT} {Q : Int32 → mM → Prop} {a0 : Nat} {x1 : Int32} {x2 : Int32} {x3 : Int32} {x4 : Int32} {x5 : Int32} {M : mM} (h : Th.2.2 a0 = some (.inl 11) ∧ (if (((M).1 a0 12) + 20) ≤ 220 then (P11_types d Th a0 x1 M (fun M2 : mM => P11_types d Th a0 x2 M2 (fun M4 : mM => P11_types d Th a0 x3 M4 (fun M6 : mM => P11_types d Th a0 x4 M6 (fun M8 : mM => P11_types d Th a0 x5 M8 (fun M10 : mM => Q (((M10).1 a0 12)) M10)))))) else (Q (-1) M))) : P11_feed (d + 1) Th a0 x1 x2 x3 x4 x5 M Q := by
  refine m_C.of (by decide +kernel) (Nat.le_of_ble_eq_true rfl) ?_
  show m_W (d + 1) 0 0 yX11_feed cX11_feed 6 (some .int) (m_qi Th Q) 0 [(0, .ref a0), (1, .int x1), (2, .int x2), (3, .int x3), (4, .int x4), (5, .int x5)] [] Th M 0 0
  refine m_aload_n dX11_feed_0 rfl 0 rfl ?_
  obtain ⟨q1, h⟩ := h
  refine m_geti f_X11_172 rfl dX11_feed_1 q1 ?_
  refine m_bipush (v := 20) dX11_feed_4 (by decide) ?_
  refine m_iadd dX11_feed_6 ?_
  refine m_sipush (v := 220) dX11_feed_7 (by decide) ?_
  refine m_icmp_le (tgt := 15) dX11_feed_10 (by decide) (fun c1 => ?_) (fun c1 => ?_)
  · rw [if_pos c1] at h
    refine m_aload_n dX11_feed_15 rfl 0 rfl ?_
    refine m_iload_n dX11_feed_16 rfl 1 rfl ?_
    refine m_invV (ci := 11) (As := [.int x1]) (d' := d) (mc' := 0) (ms' := 0) (rest := []) i_11_types v_11_types t_11_types l_X11_175 ⟨_, _, rfl⟩ dX11_feed_17 rfl rfl q1 (Nat.le_of_ble_eq_true rfl) (Nat.le_refl _) ⟨Nat.le_refl _, Nat.le_refl _⟩ (m_Cv h (fun M2 h => ?_))
    show m_W (d + 1) 0 0 yX11_feed cX11_feed 6 (some .int) (m_qi Th Q) 20 [(0, .ref a0), (1, .int x1), (2, .int x2), (3, .int x3), (4, .int x4), (5, .int x5)] [] Th M2 0 0
    refine m_aload_n dX11_feed_20 rfl 0 rfl ?_
    refine m_iload_n dX11_feed_21 rfl 2 rfl ?_
    refine m_invV (ci := 11) (As := [.int x2]) (d' := d) (mc' := 0) (ms' := 0) (rest := []) i_11_types v_11_types t_11_types l_X11_175 ⟨_, _, rfl⟩ dX11_feed_22 rfl rfl q1 (Nat.le_of_ble_eq_true rfl) (Nat.le_refl _) ⟨Nat.le_refl _, Nat.le_refl _⟩ (m_Cv h (fun M4 h => ?_))
    show m_W (d + 1) 0 0 yX11_feed cX11_feed 6 (some .int) (m_qi Th Q) 25 [(0, .ref a0), (1, .int x1), (2, .int x2), (3, .int x3), (4, .int x4), (5, .int x5)] [] Th M4 0 0
    refine m_aload_n dX11_feed_25 rfl 0 rfl ?_
    refine m_iload_n dX11_feed_26 rfl 3 rfl ?_
    refine m_invV (ci := 11) (As := [.int x3]) (d' := d) (mc' := 0) (ms' := 0) (rest := []) i_11_types v_11_types t_11_types l_X11_175 ⟨_, _, rfl⟩ dX11_feed_27 rfl rfl q1 (Nat.le_of_ble_eq_true rfl) (Nat.le_refl _) ⟨Nat.le_refl _, Nat.le_refl _⟩ (m_Cv h (fun M6 h => ?_))
    show m_W (d + 1) 0 0 yX11_feed cX11_feed 6 (some .int) (m_qi Th Q) 30 [(0, .ref a0), (1, .int x1), (2, .int x2), (3, .int x3), (4, .int x4), (5, .int x5)] [] Th M6 0 0
    refine m_aload_n dX11_feed_30 rfl 0 rfl ?_
    refine m_iload dX11_feed_31 4 rfl ?_
    refine m_invV (ci := 11) (As := [.int x4]) (d' := d) (mc' := 0) (ms' := 0) (rest := []) i_11_types v_11_types t_11_types l_X11_175 ⟨_, _, rfl⟩ dX11_feed_33 rfl rfl q1 (Nat.le_of_ble_eq_true rfl) (Nat.le_refl _) ⟨Nat.le_refl _, Nat.le_refl _⟩ (m_Cv h (fun M8 h => ?_))
    show m_W (d + 1) 0 0 yX11_feed cX11_feed 6 (some .int) (m_qi Th Q) 36 [(0, .ref a0), (1, .int x1), (2, .int x2), (3, .int x3), (4, .int x4), (5, .int x5)] [] Th M8 0 0
    refine m_aload_n dX11_feed_36 rfl 0 rfl ?_
    refine m_iload dX11_feed_37 5 rfl ?_
    refine m_invV (ci := 11) (As := [.int x5]) (d' := d) (mc' := 0) (ms' := 0) (rest := []) i_11_types v_11_types t_11_types l_X11_175 ⟨_, _, rfl⟩ dX11_feed_39 rfl rfl q1 (Nat.le_of_ble_eq_true rfl) (Nat.le_refl _) ⟨Nat.le_refl _, Nat.le_refl _⟩ (m_Cv h (fun M10 h => ?_))
    show m_W (d + 1) 0 0 yX11_feed cX11_feed 6 (some .int) (m_qi Th Q) 42 [(0, .ref a0), (1, .int x1), (2, .int x2), (3, .int x3), (4, .int x4), (5, .int x5)] [] Th M10 0 0
    refine m_aload_n dX11_feed_42 rfl 0 rfl ?_
    refine m_geti f_X11_172 rfl dX11_feed_43 q1 ?_
    exact m_ireturn dX11_feed_46 rfl rfl ⟨rfl, _, rfl, h⟩
  · rw [if_neg c1] at h
    refine m_iconst (v := (-1)) dX11_feed_13 (by decide) ?_
    exact m_ireturn dX11_feed_14 rfl rfl ⟨rfl, _, rfl, h⟩
set_option maxHeartbeats 4000000 in
set_option maxRecDepth 100000 in
theorem e11_here {d : Nat} {Th : mT} {Q : Int32 → mM → Prop} {a0 : Nat} {M : mM} (h : Th.2.2 a0 = some (.inl 11) ∧ (if ((M).1 a0 14) ≤ ((M).1 a0 13) then (Q (-1) M) else (∃ r2 : Nat, M.2.2 a0 11 = some r2 ∧ (m_ok Th r2 .byte (((M).1 a0 13)) ∧ (Q ((((M).1 r2 (Int32.toNatClampNeg (((M).1 a0 13)))) &&& 255)) M))))) : P11_here (d + 1) Th a0 M Q := by
  refine m_C.of (by decide +kernel) (Nat.le_of_ble_eq_true rfl) ?_
  show m_W (d + 1) 0 0 yX11_here cX11_here 1 (some .int) (m_qi Th Q) 0 [(0, .ref a0)] [] Th M 0 0
  refine m_aload_n dX11_here_0 rfl 0 rfl ?_
  obtain ⟨q1, h⟩ := h
  refine m_geti f_X11_179 rfl dX11_here_1 q1 ?_
  refine m_aload_n dX11_here_4 rfl 0 rfl ?_
  refine m_geti f_X11_182 rfl dX11_here_5 q1 ?_
  refine m_icmp_ge (tgt := 27) dX11_here_8 (by decide) (fun c1 => ?_) (fun c1 => ?_)
  · rw [if_pos c1] at h
    refine m_iconst (v := (-1)) dX11_here_27 (by decide) ?_
    exact m_ireturn dX11_here_28 rfl rfl ⟨rfl, _, rfl, h⟩
  · rw [if_neg c1] at h
    refine m_aload_n dX11_here_11 rfl 0 rfl ?_
    obtain ⟨r2, q3, h⟩ := h
    refine m_getr f_X11_28 rfl dX11_here_12 q1 q3 ?_
    refine m_aload_n dX11_here_15 rfl 0 rfl ?_
    refine m_geti f_X11_179 rfl dX11_here_16 q1 ?_
    obtain ⟨q4, h⟩ := h
    refine m_bald dX11_here_19 q4 ?_
    refine m_sipush (v := 255) dX11_here_20 (by decide) ?_
    refine m_iand dX11_here_23 ?_
    refine m_goto (tgt := 28) dX11_here_24 (by decide) ?_
    exact m_ireturn dX11_here_28 rfl rfl ⟨rfl, _, rfl, h⟩
set_option maxHeartbeats 4000000 in
set_option maxRecDepth 100000 in
theorem e11_isDigit {d : Nat} {Th : mT} {Q : Int32 → mM → Prop} {a0 : Nat} {M : mM} (h : Th.2.2 a0 = some (.inl 11) ∧ (P11_here d Th a0 M (fun (v2 : Int32) (M1 : mM) => if v2 < 48 then (Q 0 M1) else (P11_here d Th a0 M1 (fun (v5 : Int32) (M4 : mM) => m_bool ((if 57 < v5 then 0 else 1)) ∧ Q ((if 57 < v5 then 0 else 1)) M4))))) : P11_isDigit (d + 1) Th a0 M Q := by
  refine m_C.of (by decide +kernel) (Nat.le_of_ble_eq_true rfl) ?_
  show m_W (d + 1) 0 0 yX11_isDigit cX11_isDigit 1 (some .boolean) (m_qi Th Q) 0 [(0, .ref a0)] [] Th M 0 0
  refine m_aload_n dX11_isDigit_0 rfl 0 rfl ?_
  obtain ⟨q3, h⟩ := h
  refine m_invV (ci := 11) (As := []) (d' := d) (mc' := 0) (ms' := 0) (rest := []) i_11_here v_11_here t_11_here l_X11_185 ⟨_, _, rfl⟩ dX11_isDigit_1 rfl rfl q3 (Nat.le_of_ble_eq_true rfl) (Nat.le_refl _) ⟨Nat.le_refl _, Nat.le_refl _⟩ (m_Ci h (fun v2 M1 h => ?_))
  show m_W (d + 1) 0 0 yX11_isDigit cX11_isDigit 1 (some .boolean) (m_qi Th Q) 4 [(0, .ref a0)] [.int v2] Th M1 0 0
  refine m_bipush (v := 48) dX11_isDigit_4 (by decide) ?_
  refine m_icmp_lt (tgt := 22) dX11_isDigit_6 (by decide) (fun c1 => ?_) (fun c1 => ?_)
  · rw [if_pos c1] at h
    refine m_iconst (v := 0) dX11_isDigit_22 (by decide) ?_
    exact m_ireturn dX11_isDigit_23 rfl (by decide) ⟨rfl, _, rfl, h⟩
  · rw [if_neg c1] at h
    refine m_aload_n dX11_isDigit_9 rfl 0 rfl ?_
    refine m_invV (ci := 11) (As := []) (d' := d) (mc' := 0) (ms' := 0) (rest := []) i_11_here v_11_here t_11_here l_X11_185 ⟨_, _, rfl⟩ dX11_isDigit_10 rfl rfl q3 (Nat.le_of_ble_eq_true rfl) (Nat.le_refl _) ⟨Nat.le_refl _, Nat.le_refl _⟩ (m_Ci h (fun v5 M4 h => ?_))
    show m_W (d + 1) 0 0 yX11_isDigit cX11_isDigit 1 (some .boolean) (m_qi Th Q) 13 [(0, .ref a0)] [.int v5] Th M4 0 0
    refine m_bipush (v := 57) dX11_isDigit_13 (by decide) ?_
    have hJ : m_W (d + 1) 0 0 yX11_isDigit cX11_isDigit 1 (some .boolean) (m_qi Th Q) 23 [(0, .ref a0)] [.int ((if 57 < v5 then 0 else 1))] Th M4 0 0 := by
      exact m_ireturn dX11_isDigit_23 rfl h.1 ⟨rfl, _, rfl, h.2⟩
    refine m_icmp_gt (tgt := 22) dX11_isDigit_15 (by decide) (fun c1 => ?_) (fun c1 => ?_)
    · simp only [if_pos c1] at hJ
      refine m_iconst (v := 0) dX11_isDigit_22 (by decide) ?_
      exact hJ
    · simp only [if_neg c1] at hJ
      refine m_iconst (v := 1) dX11_isDigit_18 (by decide) ?_
      refine m_goto (tgt := 23) dX11_isDigit_19 (by decide) ?_
      exact hJ
set_option maxHeartbeats 4000000 in
set_option maxRecDepth 100000 in
theorem e11_wrong {d : Nat} {Th : mT} {Q : Int32 → mM → Prop} {a0 : Nat} {x1 : Int32} {x2 : Int32} {M : mM} (h : Th.2.2 a0 = some (.inl 11) ∧ (Q 0 (m_ui M a0 15 ((((-1000) * x1) - x2))))) : P11_wrong (d + 1) Th a0 x1 x2 M Q := by
  refine m_C.of (by decide +kernel) (Nat.le_of_ble_eq_true rfl) ?_
  show m_W (d + 1) 0 0 yX11_wrong cX11_wrong 3 (some .boolean) (m_qi Th Q) 0 [(0, .ref a0), (1, .int x1), (2, .int x2)] [] Th M 0 0
  refine m_aload_n dX11_wrong_0 rfl 0 rfl ?_
  refine m_sipush (v := (-1000)) dX11_wrong_1 (by decide) ?_
  refine m_iload_n dX11_wrong_4 rfl 1 rfl ?_
  refine m_imul dX11_wrong_5 ?_
  refine m_iload_n dX11_wrong_6 rfl 2 rfl ?_
  refine m_isub dX11_wrong_7 ?_
  obtain ⟨q1, h⟩ := h
  refine m_puti f_X11_188 rfl (Or.inl rfl) dX11_wrong_8 q1 ⟨rfl, rfl⟩ ?_
  refine m_iconst (v := 0) dX11_wrong_11 (by decide) ?_
  exact m_ireturn dX11_wrong_12 rfl (by decide) ⟨rfl, _, rfl, h⟩
set_option maxHeartbeats 4000000 in
set_option maxRecDepth 100000 in
theorem e11_takes {d : Nat} {Th : mT} {Q : Int32 → mM → Prop} {a0 : Nat} {x1 : Int32} {M : mM} (h : Th.2.2 a0 = some (.inl 11) ∧ (P11_here d Th a0 M (fun (v2 : Int32) (M1 : mM) => if v2 = x1 then (Q 1 (m_ui M1 a0 13 ((((M1).1 a0 13) + 1)))) else (P11_wrong d Th a0 1 (((M1).1 a0 13)) M1 (fun (v5 : Int32) (M4 : mM) => m_bool v5 ∧ Q v5 M4))))) : P11_takes (d + 1) Th a0 x1 M Q := by
  refine m_C.of (by decide +kernel) (Nat.le_of_ble_eq_true rfl) ?_
  show m_W (d + 1) 0 0 yX11_takes cX11_takes 2 (some .boolean) (m_qi Th Q) 0 [(0, .ref a0), (1, .int x1)] [] Th M 0 0
  refine m_aload_n dX11_takes_0 rfl 0 rfl ?_
  obtain ⟨q3, h⟩ := h
  refine m_invV (ci := 11) (As := []) (d' := d) (mc' := 0) (ms' := 0) (rest := []) i_11_here v_11_here t_11_here l_X11_185 ⟨_, _, rfl⟩ dX11_takes_1 rfl rfl q3 (Nat.le_of_ble_eq_true rfl) (Nat.le_refl _) ⟨Nat.le_refl _, Nat.le_refl _⟩ (m_Ci h (fun v2 M1 h => ?_))
  show m_W (d + 1) 0 0 yX11_takes cX11_takes 2 (some .boolean) (m_qi Th Q) 4 [(0, .ref a0), (1, .int x1)] [.int v2] Th M1 0 0
  refine m_iload_n dX11_takes_4 rfl 1 rfl ?_
  refine m_icmp_eq (tgt := 18) dX11_takes_5 (by decide) (fun c1 => ?_) (fun c1 => ?_)
  · rw [if_pos c1] at h
    refine m_aload_n dX11_takes_18 rfl 0 rfl ?_
    refine m_aload_n dX11_takes_19 rfl 0 rfl ?_
    refine m_geti f_X11_179 rfl dX11_takes_20 q3 ?_
    refine m_iconst (v := 1) dX11_takes_23 (by decide) ?_
    refine m_iadd dX11_takes_24 ?_
    refine m_puti f_X11_179 rfl (Or.inl rfl) dX11_takes_25 q3 ⟨rfl, rfl⟩ ?_
    refine m_iconst (v := 1) dX11_takes_28 (by decide) ?_
    exact m_ireturn dX11_takes_29 rfl (by decide) ⟨rfl, _, rfl, h⟩
  · rw [if_neg c1] at h
    refine m_aload_n dX11_takes_8 rfl 0 rfl ?_
    refine m_iconst (v := 1) dX11_takes_9 (by decide) ?_
    refine m_aload_n dX11_takes_10 rfl 0 rfl ?_
    refine m_geti f_X11_179 rfl dX11_takes_11 q3 ?_
    refine m_invV (ci := 11) (As := [.int 1, .int (((M1).1 a0 13))]) (d' := d) (mc' := 0) (ms' := 0) (rest := []) i_11_wrong v_11_wrong t_11_wrong l_X11_191 ⟨_, _, rfl⟩ dX11_takes_14 rfl rfl q3 (Nat.le_of_ble_eq_true rfl) (Nat.le_refl _) ⟨Nat.le_refl _, Nat.le_refl _⟩ (m_Ci h (fun v5 M4 h => ?_))
    show m_W (d + 1) 0 0 yX11_takes cX11_takes 2 (some .boolean) (m_qi Th Q) 17 [(0, .ref a0), (1, .int x1)] [.int v5] Th M4 0 0
    exact m_ireturn dX11_takes_17 rfl h.1 ⟨rfl, _, rfl, h.2⟩
set_option maxHeartbeats 4000000 in
set_option maxRecDepth 100000 in
theorem h11_readsNumber_10 {d : Nat} {Th : mT} {Q : Int32 → mM → Prop} {a0 : Nat} {x1 : Int32} {M : mM} (h : Th.2.2 a0 = some (.inl 11) ∧ (P11_isDigit d Th a0 M (fun (v2 : Int32) (M1 : mM) => if v2 = 0 then (Q 1 M1) else (if ((M1).1 a0 13) = (x1 + 5) then (P11_wrong d Th a0 2 (((M1).1 a0 13)) M1 (fun (v5 : Int32) (M4 : mM) => m_bool v5 ∧ Q v5 M4)) else (P11_here d Th a0 M1 (fun (v7 : Int32) (M6 : mM) => ∀ M8 : mM, M8 = m_ui M6 a0 20 ((((10 * ((M1).1 a0 20)) + v7) - 48)) → H11_readsNumber_10 (d + 1) Th Q a0 x1 (m_ui M8 a0 13 ((((M8).1 a0 13) + 1))))))))) : H11_readsNumber_10 (d + 1) Th Q a0 x1 M := by
  show m_W (d + 1) 0 0 yX11_readsNumber cX11_readsNumber 2 (some .boolean) (m_qi Th Q) 10 [(0, .ref a0), (1, .int x1)] [] Th M 0 0
  refine m_aload_n dX11_readsNumber_10 rfl 0 rfl ?_
  obtain ⟨q3, h⟩ := h
  refine m_invV (ci := 11) (As := []) (d' := d) (mc' := 0) (ms' := 0) (rest := []) i_11_isDigit v_11_isDigit t_11_isDigit l_X11_198 ⟨_, _, rfl⟩ dX11_readsNumber_11 rfl rfl q3 (Nat.le_of_ble_eq_true rfl) (Nat.le_refl _) ⟨Nat.le_refl _, Nat.le_refl _⟩ (m_Ci h (fun v2 M1 h => ?_))
  show m_W (d + 1) 0 0 yX11_readsNumber cX11_readsNumber 2 (some .boolean) (m_qi Th Q) 14 [(0, .ref a0), (1, .int x1)] [.int v2] Th M1 0 0
  refine m_if_eq (tgt := 69) dX11_readsNumber_14 (by decide) (fun c1 => ?_) (fun c1 => ?_)
  · rw [if_pos c1] at h
    refine m_iconst (v := 1) dX11_readsNumber_69 (by decide) ?_
    exact m_ireturn dX11_readsNumber_70 rfl (by decide) ⟨rfl, _, rfl, h⟩
  · rw [if_neg c1] at h
    refine m_aload_n dX11_readsNumber_17 rfl 0 rfl ?_
    refine m_geti f_X11_179 rfl dX11_readsNumber_18 q3 ?_
    refine m_iload_n dX11_readsNumber_21 rfl 1 rfl ?_
    refine m_iconst (v := 5) dX11_readsNumber_22 (by decide) ?_
    refine m_iadd dX11_readsNumber_23 ?_
    refine m_icmp_ne (tgt := 37) dX11_readsNumber_24 (by decide) (fun c1 => ?_) (fun c1 => ?_)
    · rw [if_neg c1] at h
      refine m_aload_n dX11_readsNumber_37 rfl 0 rfl ?_
      refine m_bipush (v := 10) dX11_readsNumber_38 (by decide) ?_
      refine m_aload_n dX11_readsNumber_40 rfl 0 rfl ?_
      refine m_geti f_X11_195 rfl dX11_readsNumber_41 q3 ?_
      refine m_imul dX11_readsNumber_44 ?_
      refine m_aload_n dX11_readsNumber_45 rfl 0 rfl ?_
      refine m_invV (ci := 11) (As := []) (d' := d) (mc' := 0) (ms' := 0) (rest := [.int ((10 * ((M1).1 a0 20))), .ref a0]) i_11_here v_11_here t_11_here l_X11_185 ⟨_, _, rfl⟩ dX11_readsNumber_46 rfl rfl q3 (Nat.le_of_ble_eq_true rfl) (Nat.le_refl _) ⟨Nat.le_refl _, Nat.le_refl _⟩ (m_Ci h (fun v7 M6 h => ?_))
      show m_W (d + 1) 0 0 yX11_readsNumber cX11_readsNumber 2 (some .boolean) (m_qi Th Q) 49 [(0, .ref a0), (1, .int x1)] [.int v7, .int ((10 * ((M1).1 a0 20))), .ref a0] Th M6 0 0
      refine m_iadd dX11_readsNumber_49 ?_
      refine m_bipush (v := 48) dX11_readsNumber_50 (by decide) ?_
      refine m_isub dX11_readsNumber_52 ?_
      refine m_puti f_X11_195 rfl (Or.inl rfl) dX11_readsNumber_53 q3 ⟨rfl, rfl⟩ ?_
      refine m_aload_n dX11_readsNumber_56 rfl 0 rfl ?_
      refine m_aload_n dX11_readsNumber_57 rfl 0 rfl ?_
      obtain ⟨M8, e_M8⟩ : ∃ M8 : mM, M8 = m_ui M6 a0 20 ((((10 * ((M1).1 a0 20)) + v7) - 48)) := ⟨_, rfl⟩
      have h := h M8 e_M8
      rw [← e_M8]
      refine m_geti f_X11_179 rfl dX11_readsNumber_58 q3 ?_
      refine m_iconst (v := 1) dX11_readsNumber_61 (by decide) ?_
      refine m_iadd dX11_readsNumber_62 ?_
      refine m_puti f_X11_179 rfl (Or.inl rfl) dX11_readsNumber_63 q3 ⟨rfl, rfl⟩ ?_
      refine m_goto (tgt := 10) dX11_readsNumber_66 (by decide) ?_
      exact h
    · rw [if_pos c1] at h
      refine m_aload_n dX11_readsNumber_27 rfl 0 rfl ?_
      refine m_iconst (v := 2) dX11_readsNumber_28 (by decide) ?_
      refine m_aload_n dX11_readsNumber_29 rfl 0 rfl ?_
      refine m_geti f_X11_179 rfl dX11_readsNumber_30 q3 ?_
      refine m_invV (ci := 11) (As := [.int 2, .int (((M1).1 a0 13))]) (d' := d) (mc' := 0) (ms' := 0) (rest := []) i_11_wrong v_11_wrong t_11_wrong l_X11_191 ⟨_, _, rfl⟩ dX11_readsNumber_33 rfl rfl q3 (Nat.le_of_ble_eq_true rfl) (Nat.le_refl _) ⟨Nat.le_refl _, Nat.le_refl _⟩ (m_Ci h (fun v5 M4 h => ?_))
      show m_W (d + 1) 0 0 yX11_readsNumber cX11_readsNumber 2 (some .boolean) (m_qi Th Q) 36 [(0, .ref a0), (1, .int x1)] [.int v5] Th M4 0 0
      exact m_ireturn dX11_readsNumber_36 rfl h.1 ⟨rfl, _, rfl, h.2⟩
set_option maxHeartbeats 4000000 in
set_option maxRecDepth 100000 in
theorem e11_readsNumber {d : Nat} {Th : mT} {Q : Int32 → mM → Prop} {a0 : Nat} {M : mM} (h : Th.2.2 a0 = some (.inl 11) ∧ (∀ xv2 : Int32, xv2 = ((M).1 a0 13) → H11_readsNumber_10 (d + 1) Th Q a0 xv2 (m_ui M a0 20 0))) : P11_readsNumber (d + 1) Th a0 M Q := by
  refine m_C.of (by decide +kernel) (Nat.le_of_ble_eq_true rfl) ?_
  show m_W (d + 1) 0 0 yX11_readsNumber cX11_readsNumber 2 (some .boolean) (m_qi Th Q) 0 [(0, .ref a0)] [] Th M 0 0
  refine m_aload_n dX11_readsNumber_0 rfl 0 rfl ?_
  obtain ⟨q1, h⟩ := h
  refine m_geti f_X11_179 rfl dX11_readsNumber_1 q1 ?_
  obtain ⟨xv2, e_xv2⟩ : ∃ xv2 : Int32, xv2 = ((M).1 a0 13) := ⟨_, rfl⟩
  have h := h xv2 e_xv2
  rw [← e_xv2]
  refine m_istore_n (lv' := [(1, .int xv2), (0, .ref a0)]) dX11_readsNumber_4 rfl (by decide) rfl ?_
  refine m_aload_n dX11_readsNumber_5 rfl 1 rfl ?_
  refine m_iconst (v := 0) dX11_readsNumber_6 (by decide) ?_
  refine m_puti f_X11_195 rfl (Or.inl rfl) dX11_readsNumber_7 q1 ⟨rfl, rfl⟩ ?_
  exact m_sub [1, 0] rfl h
set_option maxHeartbeats 4000000 in
set_option maxRecDepth 100000 in
theorem e11_notes {d : Nat} {Th : mT} {Q : mM → Prop} {a0 : Nat} {x1 : Int32} {x2 : Int32} {M : mM} (h : Th.2.2 a0 = some (.inl 11) ∧ (∃ r2 : Nat, M.2.2 a0 22 = some r2 ∧ (m_okw Th r2 .int (((M).1 a0 17)) ∧ (∀ M5 : mM, M5 = m_ui M r2 (Int32.toNatClampNeg (((M).1 a0 17))) (((1048576 * x1) + x2)) → Q (m_ui M5 a0 17 ((((M5).1 a0 17) + 1))))))) : P11_notes (d + 1) Th a0 x1 x2 M Q := by
  refine m_C.of (by decide +kernel) (Nat.le_of_ble_eq_true rfl) ?_
  show m_W (d + 1) 0 0 yX11_notes cX11_notes 3 none (m_qv Th Q) 0 [(0, .ref a0), (1, .int x1), (2, .int x2)] [] Th M 0 0
  refine m_aload_n dX11_notes_0 rfl 0 rfl ?_
  obtain ⟨q1, h⟩ := h
  obtain ⟨r2, q3, h⟩ := h
  refine m_getr f_X11_32 rfl dX11_notes_1 q1 q3 ?_
  refine m_aload_n dX11_notes_4 rfl 0 rfl ?_
  refine m_geti f_X11_202 rfl dX11_notes_5 q1 ?_
  refine m_ldc k_X11_205 dX11_notes_8 ?_
  refine m_iload_n dX11_notes_10 rfl 1 rfl ?_
  refine m_imul dX11_notes_11 ?_
  refine m_iload_n dX11_notes_12 rfl 2 rfl ?_
  refine m_iadd dX11_notes_13 ?_
  obtain ⟨q4, h⟩ := h
  refine m_iast dX11_notes_14 q4 ?_
  refine m_aload_n dX11_notes_15 rfl 0 rfl ?_
  refine m_aload_n dX11_notes_16 rfl 0 rfl ?_
  obtain ⟨M5, e_M5⟩ : ∃ M5 : mM, M5 = m_ui M r2 (Int32.toNatClampNeg (((M).1 a0 17))) (((1048576 * x1) + x2)) := ⟨_, rfl⟩
  have h := h M5 e_M5
  rw [← e_M5]
  refine m_geti f_X11_202 rfl dX11_notes_17 q1 ?_
  refine m_iconst (v := 1) dX11_notes_20 (by decide) ?_
  refine m_iadd dX11_notes_21 ?_
  refine m_puti f_X11_202 rfl (Or.inl rfl) dX11_notes_22 q1 ⟨rfl, rfl⟩ ?_
  exact m_return dX11_notes_25 rfl ⟨rfl, rfl, h⟩
set_option maxHeartbeats 4000000 in
set_option maxRecDepth 100000 in
theorem e11_opens {d : Nat} {Th : mT} {Q : Int32 → mM → Prop} {a0 : Nat} {x1 : Int32} {M : mM} (h : Th.2.2 a0 = some (.inl 11) ∧ (if ((M).1 a0 16) = 6 then (P11_wrong d Th a0 5 (((M).1 a0 13)) M (fun (v3 : Int32) (M2 : mM) => m_bool v3 ∧ Q v3 M2)) else (∃ r4 : Nat, M.2.2 a0 23 = some r4 ∧ (∀ M6 : mM, M6 = m_ui M a0 16 ((((M).1 a0 16) + 1)) → m_okw Th r4 .int (((M6).1 a0 18)) ∧ (∀ M8 : mM, M8 = m_ui M6 r4 (Int32.toNatClampNeg (((M6).1 a0 18))) ((1048576 * x1)) → ∀ M9 : mM, M9 = m_ui M8 a0 18 ((((M8).1 a0 18) + 1)) → Q 1 (m_ui M9 a0 13 ((((M9).1 a0 13) + 1)))))))) : P11_opens (d + 1) Th a0 x1 M Q := by
  refine m_C.of (by decide +kernel) (Nat.le_of_ble_eq_true rfl) ?_
  show m_W (d + 1) 0 0 yX11_opens cX11_opens 2 (some .boolean) (m_qi Th Q) 0 [(0, .ref a0), (1, .int x1)] [] Th M 0 0
  refine m_aload_n dX11_opens_0 rfl 0 rfl ?_
  obtain ⟨q1, h⟩ := h
  refine m_geti f_X11_206 rfl dX11_opens_1 q1 ?_
  refine m_bipush (v := 6) dX11_opens_4 (by decide) ?_
  refine m_icmp_ne (tgt := 19) dX11_opens_6 (by decide) (fun c1 => ?_) (fun c1 => ?_)
  · rw [if_neg c1] at h
    refine m_aload_n dX11_opens_19 rfl 0 rfl ?_
    refine m_aload_n dX11_opens_20 rfl 0 rfl ?_
    refine m_geti f_X11_206 rfl dX11_opens_21 q1 ?_
    refine m_iconst (v := 1) dX11_opens_24 (by decide) ?_
    refine m_iadd dX11_opens_25 ?_
    refine m_puti f_X11_206 rfl (Or.inl rfl) dX11_opens_26 q1 ⟨rfl, rfl⟩ ?_
    refine m_aload_n dX11_opens_29 rfl 0 rfl ?_
    obtain ⟨r4, q5, h⟩ := h
    refine m_getr f_X11_35 rfl dX11_opens_30 q1 q5 ?_
    refine m_aload_n dX11_opens_33 rfl 0 rfl ?_
    obtain ⟨M6, e_M6⟩ : ∃ M6 : mM, M6 = m_ui M a0 16 ((((M).1 a0 16) + 1)) := ⟨_, rfl⟩
    have h := h M6 e_M6
    rw [← e_M6]
    refine m_geti f_X11_209 rfl dX11_opens_34 q1 ?_
    refine m_ldc k_X11_205 dX11_opens_37 ?_
    refine m_iload_n dX11_opens_39 rfl 1 rfl ?_
    refine m_imul dX11_opens_40 ?_
    obtain ⟨q7, h⟩ := h
    refine m_iast dX11_opens_41 q7 ?_
    refine m_aload_n dX11_opens_42 rfl 0 rfl ?_
    refine m_aload_n dX11_opens_43 rfl 0 rfl ?_
    obtain ⟨M8, e_M8⟩ : ∃ M8 : mM, M8 = m_ui M6 r4 (Int32.toNatClampNeg (((M6).1 a0 18))) ((1048576 * x1)) := ⟨_, rfl⟩
    have h := h M8 e_M8
    rw [← e_M8]
    refine m_geti f_X11_209 rfl dX11_opens_44 q1 ?_
    refine m_iconst (v := 1) dX11_opens_47 (by decide) ?_
    refine m_iadd dX11_opens_48 ?_
    refine m_puti f_X11_209 rfl (Or.inl rfl) dX11_opens_49 q1 ⟨rfl, rfl⟩ ?_
    refine m_aload_n dX11_opens_52 rfl 0 rfl ?_
    refine m_aload_n dX11_opens_53 rfl 0 rfl ?_
    obtain ⟨M9, e_M9⟩ : ∃ M9 : mM, M9 = m_ui M8 a0 18 ((((M8).1 a0 18) + 1)) := ⟨_, rfl⟩
    have h := h M9 e_M9
    rw [← e_M9]
    refine m_geti f_X11_179 rfl dX11_opens_54 q1 ?_
    refine m_iconst (v := 1) dX11_opens_57 (by decide) ?_
    refine m_iadd dX11_opens_58 ?_
    refine m_puti f_X11_179 rfl (Or.inl rfl) dX11_opens_59 q1 ⟨rfl, rfl⟩ ?_
    refine m_iconst (v := 1) dX11_opens_62 (by decide) ?_
    exact m_ireturn dX11_opens_63 rfl (by decide) ⟨rfl, _, rfl, h⟩
  · rw [if_pos c1] at h
    refine m_aload_n dX11_opens_9 rfl 0 rfl ?_
    refine m_iconst (v := 5) dX11_opens_10 (by decide) ?_
    refine m_aload_n dX11_opens_11 rfl 0 rfl ?_
    refine m_geti f_X11_179 rfl dX11_opens_12 q1 ?_
    refine m_invV (ci := 11) (As := [.int 5, .int (((M).1 a0 13))]) (d' := d) (mc' := 0) (ms' := 0) (rest := []) i_11_wrong v_11_wrong t_11_wrong l_X11_191 ⟨_, _, rfl⟩ dX11_opens_15 rfl rfl q1 (Nat.le_of_ble_eq_true rfl) (Nat.le_refl _) ⟨Nat.le_refl _, Nat.le_refl _⟩ (m_Ci h (fun v3 M2 h => ?_))
    show m_W (d + 1) 0 0 yX11_opens cX11_opens 2 (some .boolean) (m_qi Th Q) 18 [(0, .ref a0), (1, .int x1)] [.int v3] Th M2 0 0
    exact m_ireturn dX11_opens_18 rfl h.1 ⟨rfl, _, rfl, h.2⟩
set_option maxHeartbeats 4000000 in
set_option maxRecDepth 100000 in
theorem e11_top {d : Nat} {Th : mT} {Q : Int32 → mM → Prop} {a0 : Nat} {M : mM} (h : Th.2.2 a0 = some (.inl 11) ∧ (if ((M).1 a0 18) = 0 then (Q (-1) M) else (∃ r2 : Nat, M.2.2 a0 23 = some r2 ∧ (m_ok Th r2 .int ((((M).1 a0 18) - 1)) ∧ (Q ((((M).1 r2 (Int32.toNatClampNeg ((((M).1 a0 18) - 1)))) / 1048576)) M))))) : P11_top (d + 1) Th a0 M Q := by
  refine m_C.of (by decide +kernel) (Nat.le_of_ble_eq_true rfl) ?_
  show m_W (d + 1) 0 0 yX11_top cX11_top 1 (some .int) (m_qi Th Q) 0 [(0, .ref a0)] [] Th M 0 0
  refine m_aload_n dX11_top_0 rfl 0 rfl ?_
  obtain ⟨q1, h⟩ := h
  refine m_geti f_X11_209 rfl dX11_top_1 q1 ?_
  refine m_if_ne (tgt := 11) dX11_top_4 (by decide) (fun c1 => ?_) (fun c1 => ?_)
  · rw [if_neg c1] at h
    refine m_aload_n dX11_top_11 rfl 0 rfl ?_
    obtain ⟨r2, q3, h⟩ := h
    refine m_getr f_X11_35 rfl dX11_top_12 q1 q3 ?_
    refine m_aload_n dX11_top_15 rfl 0 rfl ?_
    refine m_geti f_X11_209 rfl dX11_top_16 q1 ?_
    refine m_iconst (v := 1) dX11_top_19 (by decide) ?_
    refine m_isub dX11_top_20 ?_
    obtain ⟨q4, h⟩ := h
    refine m_iald dX11_top_21 q4 ?_
    refine m_ldc k_X11_205 dX11_top_22 ?_
    refine m_idiv dX11_top_24 (by decide) ?_
    exact m_ireturn dX11_top_25 rfl rfl ⟨rfl, _, rfl, h⟩
  · rw [if_pos c1] at h
    refine m_iconst (v := (-1)) dX11_top_7 (by decide) ?_
    refine m_goto (tgt := 25) dX11_top_8 (by decide) ?_
    exact m_ireturn dX11_top_25 rfl rfl ⟨rfl, _, rfl, h⟩
set_option maxHeartbeats 4000000 in
set_option maxRecDepth 100000 in
theorem e11_factOf {d : Nat} {Th : mT} {Q : Int32 → mM → Prop} {x0 : Int32} {M : mM} (h : if x0 = 98 then (Q 4 M) else (if x0 = 99 then (Q 0 M) else (if x0 = 102 then (Q 6 M) else (if x0 = 104 then (Q 1 M) else (if x0 = 110 then (Q 5 M) else (if x0 = 113 then (Q 7 M) else (if x0 = 114 then (Q 3 M) else (if x0 = 116 then (Q 2 M) else (Q (-1) M))))))))) : P11_factOf (d + 1) Th x0 M Q := by
  refine m_C.of (by decide +kernel) (Nat.le_of_ble_eq_true rfl) ?_
  show m_W (d + 1) 0 0 yX11_factOf cX11_factOf 1 (some .int) (m_qi Th Q) 0 [(0, .int x0)] [] Th M 0 0
  refine m_iload_n dX11_factOf_0 rfl 0 rfl ?_
  by_cases c0 : x0 = 98
  · rw [if_pos c0] at h
    refine m_tableIn (off := 99) (tgt := 100) dX11_factOf_1 (by rw [c0]; decide) (by rw [c0]; decide) (by rw [c0]; decide) (by decide) ?_
    refine m_iconst (v := 4) dX11_factOf_100 (by decide) ?_
    exact m_ireturn dX11_factOf_101 rfl rfl ⟨rfl, _, rfl, h⟩
  rw [if_neg c0] at h
  by_cases c1 : x0 = 99
  · rw [if_pos c1] at h
    refine m_tableIn (off := 91) (tgt := 92) dX11_factOf_1 (by rw [c1]; decide) (by rw [c1]; decide) (by rw [c1]; decide) (by decide) ?_
    refine m_iconst (v := 0) dX11_factOf_92 (by decide) ?_
    exact m_ireturn dX11_factOf_93 rfl rfl ⟨rfl, _, rfl, h⟩
  rw [if_neg c1] at h
  by_cases c2 : x0 = 102
  · rw [if_pos c2] at h
    refine m_tableIn (off := 103) (tgt := 104) dX11_factOf_1 (by rw [c2]; decide) (by rw [c2]; decide) (by rw [c2]; decide) (by decide) ?_
    refine m_bipush (v := 6) dX11_factOf_104 (by decide) ?_
    exact m_ireturn dX11_factOf_106 rfl rfl ⟨rfl, _, rfl, h⟩
  rw [if_neg c2] at h
  by_cases c3 : x0 = 104
  · rw [if_pos c3] at h
    refine m_tableIn (off := 93) (tgt := 94) dX11_factOf_1 (by rw [c3]; decide) (by rw [c3]; decide) (by rw [c3]; decide) (by decide) ?_
    refine m_iconst (v := 1) dX11_factOf_94 (by decide) ?_
    exact m_ireturn dX11_factOf_95 rfl rfl ⟨rfl, _, rfl, h⟩
  rw [if_neg c3] at h
  by_cases c4 : x0 = 110
  · rw [if_pos c4] at h
    refine m_tableIn (off := 101) (tgt := 102) dX11_factOf_1 (by rw [c4]; decide) (by rw [c4]; decide) (by rw [c4]; decide) (by decide) ?_
    refine m_iconst (v := 5) dX11_factOf_102 (by decide) ?_
    exact m_ireturn dX11_factOf_103 rfl rfl ⟨rfl, _, rfl, h⟩
  rw [if_neg c4] at h
  by_cases c5 : x0 = 113
  · rw [if_pos c5] at h
    refine m_tableIn (off := 106) (tgt := 107) dX11_factOf_1 (by rw [c5]; decide) (by rw [c5]; decide) (by rw [c5]; decide) (by decide) ?_
    refine m_bipush (v := 7) dX11_factOf_107 (by decide) ?_
    exact m_ireturn dX11_factOf_109 rfl rfl ⟨rfl, _, rfl, h⟩
  rw [if_neg c5] at h
  by_cases c6 : x0 = 114
  · rw [if_pos c6] at h
    refine m_tableIn (off := 97) (tgt := 98) dX11_factOf_1 (by rw [c6]; decide) (by rw [c6]; decide) (by rw [c6]; decide) (by decide) ?_
    refine m_iconst (v := 3) dX11_factOf_98 (by decide) ?_
    exact m_ireturn dX11_factOf_99 rfl rfl ⟨rfl, _, rfl, h⟩
  rw [if_neg c6] at h
  by_cases c7 : x0 = 116
  · rw [if_pos c7] at h
    refine m_tableIn (off := 95) (tgt := 96) dX11_factOf_1 (by rw [c7]; decide) (by rw [c7]; decide) (by rw [c7]; decide) (by decide) ?_
    refine m_iconst (v := 2) dX11_factOf_96 (by decide) ?_
    exact m_ireturn dX11_factOf_97 rfl rfl ⟨rfl, _, rfl, h⟩
  rw [if_neg c7] at h
  by_cases g2 : x0 = 100
  · refine m_tableIn (off := 109) (tgt := 110) dX11_factOf_1 (by rw [g2]; decide) (by rw [g2]; decide) (by rw [g2]; decide) (by decide) ?_
    refine m_iconst (v := (-1)) dX11_factOf_110 (by decide) ?_
    exact m_ireturn dX11_factOf_111 rfl rfl ⟨rfl, _, rfl, h⟩
  by_cases g3 : x0 = 101
  · refine m_tableIn (off := 109) (tgt := 110) dX11_factOf_1 (by rw [g3]; decide) (by rw [g3]; decide) (by rw [g3]; decide) (by decide) ?_
    refine m_iconst (v := (-1)) dX11_factOf_110 (by decide) ?_
    exact m_ireturn dX11_factOf_111 rfl rfl ⟨rfl, _, rfl, h⟩
  by_cases g5 : x0 = 103
  · refine m_tableIn (off := 109) (tgt := 110) dX11_factOf_1 (by rw [g5]; decide) (by rw [g5]; decide) (by rw [g5]; decide) (by decide) ?_
    refine m_iconst (v := (-1)) dX11_factOf_110 (by decide) ?_
    exact m_ireturn dX11_factOf_111 rfl rfl ⟨rfl, _, rfl, h⟩
  by_cases g7 : x0 = 105
  · refine m_tableIn (off := 109) (tgt := 110) dX11_factOf_1 (by rw [g7]; decide) (by rw [g7]; decide) (by rw [g7]; decide) (by decide) ?_
    refine m_iconst (v := (-1)) dX11_factOf_110 (by decide) ?_
    exact m_ireturn dX11_factOf_111 rfl rfl ⟨rfl, _, rfl, h⟩
  by_cases g8 : x0 = 106
  · refine m_tableIn (off := 109) (tgt := 110) dX11_factOf_1 (by rw [g8]; decide) (by rw [g8]; decide) (by rw [g8]; decide) (by decide) ?_
    refine m_iconst (v := (-1)) dX11_factOf_110 (by decide) ?_
    exact m_ireturn dX11_factOf_111 rfl rfl ⟨rfl, _, rfl, h⟩
  by_cases g9 : x0 = 107
  · refine m_tableIn (off := 109) (tgt := 110) dX11_factOf_1 (by rw [g9]; decide) (by rw [g9]; decide) (by rw [g9]; decide) (by decide) ?_
    refine m_iconst (v := (-1)) dX11_factOf_110 (by decide) ?_
    exact m_ireturn dX11_factOf_111 rfl rfl ⟨rfl, _, rfl, h⟩
  by_cases g10 : x0 = 108
  · refine m_tableIn (off := 109) (tgt := 110) dX11_factOf_1 (by rw [g10]; decide) (by rw [g10]; decide) (by rw [g10]; decide) (by decide) ?_
    refine m_iconst (v := (-1)) dX11_factOf_110 (by decide) ?_
    exact m_ireturn dX11_factOf_111 rfl rfl ⟨rfl, _, rfl, h⟩
  by_cases g11 : x0 = 109
  · refine m_tableIn (off := 109) (tgt := 110) dX11_factOf_1 (by rw [g11]; decide) (by rw [g11]; decide) (by rw [g11]; decide) (by decide) ?_
    refine m_iconst (v := (-1)) dX11_factOf_110 (by decide) ?_
    exact m_ireturn dX11_factOf_111 rfl rfl ⟨rfl, _, rfl, h⟩
  by_cases g13 : x0 = 111
  · refine m_tableIn (off := 109) (tgt := 110) dX11_factOf_1 (by rw [g13]; decide) (by rw [g13]; decide) (by rw [g13]; decide) (by decide) ?_
    refine m_iconst (v := (-1)) dX11_factOf_110 (by decide) ?_
    exact m_ireturn dX11_factOf_111 rfl rfl ⟨rfl, _, rfl, h⟩
  by_cases g14 : x0 = 112
  · refine m_tableIn (off := 109) (tgt := 110) dX11_factOf_1 (by rw [g14]; decide) (by rw [g14]; decide) (by rw [g14]; decide) (by decide) ?_
    refine m_iconst (v := (-1)) dX11_factOf_110 (by decide) ?_
    exact m_ireturn dX11_factOf_111 rfl rfl ⟨rfl, _, rfl, h⟩
  by_cases g17 : x0 = 115
  · refine m_tableIn (off := 109) (tgt := 110) dX11_factOf_1 (by rw [g17]; decide) (by rw [g17]; decide) (by rw [g17]; decide) (by decide) ?_
    refine m_iconst (v := (-1)) dX11_factOf_110 (by decide) ?_
    exact m_ireturn dX11_factOf_111 rfl rfl ⟨rfl, _, rfl, h⟩
  refine m_tableOut (tgt := 110) dX11_factOf_1 (m_sw 98 116 (fun k h1 h2 => by have hk : k = 98 ∨ k = 99 ∨ k = 100 ∨ k = 101 ∨ k = 102 ∨ k = 103 ∨ k = 104 ∨ k = 105 ∨ k = 106 ∨ k = 107 ∨ k = 108 ∨ k = 109 ∨ k = 110 ∨ k = 111 ∨ k = 112 ∨ k = 113 ∨ k = 114 ∨ k = 115 ∨ k = 116 := (by omega); rcases hk with rfl | rfl | rfl | rfl | rfl | rfl | rfl | rfl | rfl | rfl | rfl | rfl | rfl | rfl | rfl | rfl | rfl | rfl | rfl <;> first | exact c0 | exact c1 | exact g2 | exact g3 | exact c2 | exact g5 | exact c3 | exact g7 | exact g8 | exact g9 | exact g10 | exact g11 | exact c4 | exact g13 | exact g14 | exact c5 | exact c6 | exact g17 | exact c7)) (by decide) ?_
  refine m_iconst (v := (-1)) dX11_factOf_110 (by decide) ?_
  exact m_ireturn dX11_factOf_111 rfl rfl ⟨rfl, _, rfl, h⟩
set_option maxHeartbeats 4000000 in
set_option maxRecDepth 100000 in
theorem e11_sumSign {d : Nat} {Th : mT} {Q : Int32 → mM → Prop} {x0 : Int32} {M : mM} (h : Q ((if x0 = 43 then 2 else (if x0 = 45 then 3 else (if x0 = 42 then 4 else (if x0 = 47 then 5 else (if x0 = 37 then 6 else (-1))))))) M) : P11_sumSign (d + 1) Th x0 M Q := by
  refine m_C.of (by decide +kernel) (Nat.le_of_ble_eq_true rfl) ?_
  show m_W (d + 1) 0 0 yX11_sumSign cX11_sumSign 1 (some .int) (m_qi Th Q) 0 [(0, .int x0)] [] Th M 0 0
  refine m_iload_n dX11_sumSign_0 rfl 0 rfl ?_
  refine m_bipush (v := 43) dX11_sumSign_1 (by decide) ?_
  have hJ : m_W (d + 1) 0 0 yX11_sumSign cX11_sumSign 1 (some .int) (m_qi Th Q) 52 [(0, .int x0)] [.int ((if x0 = 43 then 2 else (if x0 = 45 then 3 else (if x0 = 42 then 4 else (if x0 = 47 then 5 else (if x0 = 37 then 6 else (-1)))))))] Th M 0 0 := by
    exact m_ireturn dX11_sumSign_52 rfl rfl ⟨rfl, _, rfl, h⟩
  refine m_icmp_ne (tgt := 10) dX11_sumSign_3 (by decide) (fun c1 => ?_) (fun c1 => ?_)
  · simp only [if_neg c1] at hJ
    refine m_iload_n dX11_sumSign_10 rfl 0 rfl ?_
    refine m_bipush (v := 45) dX11_sumSign_11 (by decide) ?_
    refine m_icmp_ne (tgt := 20) dX11_sumSign_13 (by decide) (fun c2 => ?_) (fun c2 => ?_)
    · simp only [if_neg c2] at hJ
      refine m_iload_n dX11_sumSign_20 rfl 0 rfl ?_
      refine m_bipush (v := 42) dX11_sumSign_21 (by decide) ?_
      refine m_icmp_ne (tgt := 30) dX11_sumSign_23 (by decide) (fun c2 => ?_) (fun c2 => ?_)
      · simp only [if_neg c2] at hJ
        refine m_iload_n dX11_sumSign_30 rfl 0 rfl ?_
        refine m_bipush (v := 47) dX11_sumSign_31 (by decide) ?_
        refine m_icmp_ne (tgt := 40) dX11_sumSign_33 (by decide) (fun c2 => ?_) (fun c2 => ?_)
        · simp only [if_neg c2] at hJ
          refine m_iload_n dX11_sumSign_40 rfl 0 rfl ?_
          refine m_bipush (v := 37) dX11_sumSign_41 (by decide) ?_
          refine m_icmp_ne (tgt := 51) dX11_sumSign_43 (by decide) (fun c2 => ?_) (fun c2 => ?_)
          · simp only [if_neg c2] at hJ
            refine m_iconst (v := (-1)) dX11_sumSign_51 (by decide) ?_
            exact hJ
          · simp only [if_pos c2] at hJ
            refine m_bipush (v := 6) dX11_sumSign_46 (by decide) ?_
            refine m_goto (tgt := 52) dX11_sumSign_48 (by decide) ?_
            exact hJ
        · simp only [if_pos c2] at hJ
          refine m_iconst (v := 5) dX11_sumSign_36 (by decide) ?_
          refine m_goto (tgt := 52) dX11_sumSign_37 (by decide) ?_
          exact hJ
      · simp only [if_pos c2] at hJ
        refine m_iconst (v := 4) dX11_sumSign_26 (by decide) ?_
        refine m_goto (tgt := 52) dX11_sumSign_27 (by decide) ?_
        exact hJ
    · simp only [if_pos c2] at hJ
      refine m_iconst (v := 3) dX11_sumSign_16 (by decide) ?_
      refine m_goto (tgt := 52) dX11_sumSign_17 (by decide) ?_
      exact hJ
  · simp only [if_pos c1] at hJ
    refine m_iconst (v := 2) dX11_sumSign_6 (by decide) ?_
    refine m_goto (tgt := 52) dX11_sumSign_7 (by decide) ?_
    exact hJ
set_option maxHeartbeats 4000000 in
set_option maxRecDepth 100000 in
theorem h11_closesSums_0 {d : Nat} {Th : mT} {Q : mM → Prop} {a0 : Nat} {x1 : Int32} {M : mM} (h : Th.2.2 a0 = some (.inl 11) ∧ (P11_top d Th a0 M (fun (v2 : Int32) (M1 : mM) => if v2 < 4 then (H11_closesSums_17 (d + 1) Th Q a0 x1 M1) else (P11_top d Th a0 M1 (fun (v5 : Int32) (M4 : mM) => if v5 ≤ 6 then (H11_closesSums_37 (d + 1) Th Q a0 x1 M4) else (H11_closesSums_17 (d + 1) Th Q a0 x1 M4)))))) : H11_closesSums_0 (d + 1) Th Q a0 x1 M := by
  show m_W (d + 1) 0 0 yX11_closesSums cX11_closesSums 2 none (m_qv Th Q) 0 [(0, .ref a0), (1, .int x1)] [] Th M 0 0
  refine m_aload_n dX11_closesSums_0 rfl 0 rfl ?_
  obtain ⟨q3, h⟩ := h
  refine m_invV (ci := 11) (As := []) (d' := d) (mc' := 0) (ms' := 0) (rest := []) i_11_top v_11_top t_11_top l_X11_212 ⟨_, _, rfl⟩ dX11_closesSums_1 rfl rfl q3 (Nat.le_of_ble_eq_true rfl) (Nat.le_refl _) ⟨Nat.le_refl _, Nat.le_refl _⟩ (m_Ci h (fun v2 M1 h => ?_))
  show m_W (d + 1) 0 0 yX11_closesSums cX11_closesSums 2 none (m_qv Th Q) 4 [(0, .ref a0), (1, .int x1)] [.int v2] Th M1 0 0
  refine m_iconst (v := 4) dX11_closesSums_4 (by decide) ?_
  refine m_icmp_lt (tgt := 17) dX11_closesSums_5 (by decide) (fun c1 => ?_) (fun c1 => ?_)
  · rw [if_pos c1] at h
    exact h
  · rw [if_neg c1] at h
    refine m_aload_n dX11_closesSums_8 rfl 0 rfl ?_
    refine m_invV (ci := 11) (As := []) (d' := d) (mc' := 0) (ms' := 0) (rest := []) i_11_top v_11_top t_11_top l_X11_212 ⟨_, _, rfl⟩ dX11_closesSums_9 rfl rfl q3 (Nat.le_of_ble_eq_true rfl) (Nat.le_refl _) ⟨Nat.le_refl _, Nat.le_refl _⟩ (m_Ci h (fun v5 M4 h => ?_))
    show m_W (d + 1) 0 0 yX11_closesSums cX11_closesSums 2 none (m_qv Th Q) 12 [(0, .ref a0), (1, .int x1)] [.int v5] Th M4 0 0
    refine m_bipush (v := 6) dX11_closesSums_12 (by decide) ?_
    refine m_icmp_le (tgt := 37) dX11_closesSums_14 (by decide) (fun c1 => ?_) (fun c1 => ?_)
    · rw [if_pos c1] at h
      exact h
    · rw [if_neg c1] at h
      exact h
set_option maxHeartbeats 4000000 in
set_option maxRecDepth 100000 in
theorem h11_closesSums_17 {d : Nat} {Th : mT} {Q : mM → Prop} {a0 : Nat} {x1 : Int32} {M : mM} (h : if x1 = 0 then (Q M) else (Th.2.2 a0 = some (.inl 11) ∧ (P11_top d Th a0 M (fun (v2 : Int32) (M1 : mM) => if v2 = 2 then (H11_closesSums_37 (d + 1) Th Q a0 x1 M1) else (P11_top d Th a0 M1 (fun (v5 : Int32) (M4 : mM) => if v5 = 3 then (H11_closesSums_37 (d + 1) Th Q a0 x1 M4) else (Q M4))))))) : H11_closesSums_17 (d + 1) Th Q a0 x1 M := by
  show m_W (d + 1) 0 0 yX11_closesSums cX11_closesSums 2 none (m_qv Th Q) 17 [(0, .ref a0), (1, .int x1)] [] Th M 0 0
  refine m_iload_n dX11_closesSums_17 rfl 1 rfl ?_
  refine m_if_eq (tgt := 59) dX11_closesSums_18 (by decide) (fun c1 => ?_) (fun c1 => ?_)
  · rw [if_pos c1] at h
    exact m_return dX11_closesSums_59 rfl ⟨rfl, rfl, h⟩
  · rw [if_neg c1] at h
    refine m_aload_n dX11_closesSums_21 rfl 0 rfl ?_
    obtain ⟨q3, h⟩ := h
    refine m_invV (ci := 11) (As := []) (d' := d) (mc' := 0) (ms' := 0) (rest := []) i_11_top v_11_top t_11_top l_X11_212 ⟨_, _, rfl⟩ dX11_closesSums_22 rfl rfl q3 (Nat.le_of_ble_eq_true rfl) (Nat.le_refl _) ⟨Nat.le_refl _, Nat.le_refl _⟩ (m_Ci h (fun v2 M1 h => ?_))
    show m_W (d + 1) 0 0 yX11_closesSums cX11_closesSums 2 none (m_qv Th Q) 25 [(0, .ref a0), (1, .int x1)] [.int v2] Th M1 0 0
    refine m_iconst (v := 2) dX11_closesSums_25 (by decide) ?_
    refine m_icmp_eq (tgt := 37) dX11_closesSums_26 (by decide) (fun c1 => ?_) (fun c1 => ?_)
    · rw [if_pos c1] at h
      exact h
    · rw [if_neg c1] at h
      refine m_aload_n dX11_closesSums_29 rfl 0 rfl ?_
      refine m_invV (ci := 11) (As := []) (d' := d) (mc' := 0) (ms' := 0) (rest := []) i_11_top v_11_top t_11_top l_X11_212 ⟨_, _, rfl⟩ dX11_closesSums_30 rfl rfl q3 (Nat.le_of_ble_eq_true rfl) (Nat.le_refl _) ⟨Nat.le_refl _, Nat.le_refl _⟩ (m_Ci h (fun v5 M4 h => ?_))
      show m_W (d + 1) 0 0 yX11_closesSums cX11_closesSums 2 none (m_qv Th Q) 33 [(0, .ref a0), (1, .int x1)] [.int v5] Th M4 0 0
      refine m_iconst (v := 3) dX11_closesSums_33 (by decide) ?_
      refine m_icmp_ne (tgt := 59) dX11_closesSums_34 (by decide) (fun c1 => ?_) (fun c1 => ?_)
      · rw [if_neg c1] at h
        exact m_return dX11_closesSums_59 rfl ⟨rfl, rfl, h⟩
      · rw [if_pos c1] at h
        exact h
set_option maxHeartbeats 4000000 in
set_option maxRecDepth 100000 in
theorem h11_closesSums_37 {d : Nat} {Th : mT} {Q : mM → Prop} {a0 : Nat} {x1 : Int32} {M : mM} (h : Th.2.2 a0 = some (.inl 11) ∧ (P11_top d Th a0 M (fun (v2 : Int32) (M1 : mM) => P11_notes d Th a0 v2 0 M1 (fun M4 : mM => H11_closesSums_0 (d + 1) Th Q a0 x1 (m_ui M4 a0 18 ((((M4).1 a0 18) - 1))))))) : H11_closesSums_37 (d + 1) Th Q a0 x1 M := by
  show m_W (d + 1) 0 0 yX11_closesSums cX11_closesSums 2 none (m_qv Th Q) 37 [(0, .ref a0), (1, .int x1)] [] Th M 0 0
  refine m_aload_n dX11_closesSums_37 rfl 0 rfl ?_
  refine m_aload_n dX11_closesSums_38 rfl 0 rfl ?_
  obtain ⟨q3, h⟩ := h
  refine m_invV (ci := 11) (As := []) (d' := d) (mc' := 0) (ms' := 0) (rest := [.ref a0]) i_11_top v_11_top t_11_top l_X11_212 ⟨_, _, rfl⟩ dX11_closesSums_39 rfl rfl q3 (Nat.le_of_ble_eq_true rfl) (Nat.le_refl _) ⟨Nat.le_refl _, Nat.le_refl _⟩ (m_Ci h (fun v2 M1 h => ?_))
  show m_W (d + 1) 0 0 yX11_closesSums cX11_closesSums 2 none (m_qv Th Q) 42 [(0, .ref a0), (1, .int x1)] [.int v2, .ref a0] Th M1 0 0
  refine m_iconst (v := 0) dX11_closesSums_42 (by decide) ?_
  refine m_invV (ci := 11) (As := [.int v2, .int 0]) (d' := d) (mc' := 0) (ms' := 0) (rest := []) i_11_notes v_11_notes t_11_notes l_X11_215 ⟨_, _, rfl⟩ dX11_closesSums_43 rfl rfl q3 (Nat.le_of_ble_eq_true rfl) (Nat.le_refl _) ⟨Nat.le_refl _, Nat.le_refl _⟩ (m_Cv h (fun M4 h => ?_))
  show m_W (d + 1) 0 0 yX11_closesSums cX11_closesSums 2 none (m_qv Th Q) 46 [(0, .ref a0), (1, .int x1)] [] Th M4 0 0
  refine m_aload_n dX11_closesSums_46 rfl 0 rfl ?_
  refine m_aload_n dX11_closesSums_47 rfl 0 rfl ?_
  refine m_geti f_X11_209 rfl dX11_closesSums_48 q3 ?_
  refine m_iconst (v := 1) dX11_closesSums_51 (by decide) ?_
  refine m_isub dX11_closesSums_52 ?_
  refine m_puti f_X11_209 rfl (Or.inl rfl) dX11_closesSums_53 q3 ⟨rfl, rfl⟩ ?_
  refine m_goto (tgt := 0) dX11_closesSums_56 (by decide) ?_
  exact h
set_option maxHeartbeats 4000000 in
set_option maxRecDepth 100000 in
theorem e11_closesSums {d : Nat} {Th : mT} {Q : mM → Prop} {a0 : Nat} {x1 : Int32} {M : mM} (h : H11_closesSums_0 (d + 1) Th Q a0 x1 M) : P11_closesSums (d + 1) Th a0 x1 M Q := by
  refine m_C.of (by decide +kernel) (Nat.le_of_ble_eq_true rfl) ?_
  show m_W (d + 1) 0 0 yX11_closesSums cX11_closesSums 2 none (m_qv Th Q) 0 [(0, .ref a0), (1, .int x1)] [] Th M 0 0
  exact h
set_option maxHeartbeats 4000000 in
set_option maxRecDepth 100000 in
theorem h11_readsFactor_0 {d : Nat} {Th : mT} {Q : Int32 → mM → Prop} {a0 : Nat} {M : mM} (h : Th.2.2 a0 = some (.inl 11) ∧ (P11_here d Th a0 M (fun (v2 : Int32) (M1 : mM) => if v2 = 91 then (P11_opens d Th a0 14 M1 (fun (v5 : Int32) (M4 : mM) => if v5 = 0 then (Q 0 M4) else (H11_readsFactor_0 (d + 1) Th Q a0 M4))) else (P11_isDigit d Th a0 M1 (fun (v7 : Int32) (M6 : mM) => if v7 = 0 then (P11_here d Th a0 M6 (fun (v9 : Int32) (M8 : mM) => P11_factOf d Th v9 M8 (fun (v11 : Int32) (M10 : mM) => if v11 = (-1) then (P11_wrong d Th a0 1 (((M10).1 a0 13)) M10 (fun (v13 : Int32) (M12 : mM) => m_bool v13 ∧ Q v13 M12)) else (P11_notes d Th a0 1 v11 M10 (fun M14 : mM => Q 1 (m_ui M14 a0 13 ((((M14).1 a0 13) + 1)))))))) else (P11_readsNumber d Th a0 M6 (fun (v17 : Int32) (M16 : mM) => if v17 = 0 then (Q 0 M16) else (P11_notes d Th a0 0 (((M16).1 a0 20)) M16 (fun M18 : mM => Q 1 M18))))))))) : H11_readsFactor_0 (d + 1) Th Q a0 M := by
  show m_W (d + 1) 0 0 yX11_readsFactor cX11_readsFactor 2 (some .boolean) (m_qi Th Q) 0 [(0, .ref a0)] [] Th M 0 0
  refine m_aload_n dX11_readsFactor_0 rfl 0 rfl ?_
  obtain ⟨q3, h⟩ := h
  refine m_invV (ci := 11) (As := []) (d' := d) (mc' := 0) (ms' := 0) (rest := []) i_11_here v_11_here t_11_here l_X11_185 ⟨_, _, rfl⟩ dX11_readsFactor_1 rfl rfl q3 (Nat.le_of_ble_eq_true rfl) (Nat.le_refl _) ⟨Nat.le_refl _, Nat.le_refl _⟩ (m_Ci h (fun v2 M1 h => ?_))
  show m_W (d + 1) 0 0 yX11_readsFactor cX11_readsFactor 2 (some .boolean) (m_qi Th Q) 4 [(0, .ref a0)] [.int v2] Th M1 0 0
  refine m_bipush (v := 91) dX11_readsFactor_4 (by decide) ?_
  refine m_icmp_ne (tgt := 20) dX11_readsFactor_6 (by decide) (fun c1 => ?_) (fun c1 => ?_)
  · rw [if_neg c1] at h
    refine m_aload_n dX11_readsFactor_20 rfl 0 rfl ?_
    refine m_invV (ci := 11) (As := []) (d' := d) (mc' := 0) (ms' := 0) (rest := []) i_11_isDigit v_11_isDigit t_11_isDigit l_X11_198 ⟨_, _, rfl⟩ dX11_readsFactor_21 rfl rfl q3 (Nat.le_of_ble_eq_true rfl) (Nat.le_refl _) ⟨Nat.le_refl _, Nat.le_refl _⟩ (m_Ci h (fun v7 M6 h => ?_))
    show m_W (d + 1) 0 0 yX11_readsFactor cX11_readsFactor 2 (some .boolean) (m_qi Th Q) 24 [(0, .ref a0)] [.int v7] Th M6 0 0
    refine m_if_eq (tgt := 47) dX11_readsFactor_24 (by decide) (fun c1 => ?_) (fun c1 => ?_)
    · rw [if_pos c1] at h
      refine m_aload_n dX11_readsFactor_47 rfl 0 rfl ?_
      refine m_invV (ci := 11) (As := []) (d' := d) (mc' := 0) (ms' := 0) (rest := []) i_11_here v_11_here t_11_here l_X11_185 ⟨_, _, rfl⟩ dX11_readsFactor_48 rfl rfl q3 (Nat.le_of_ble_eq_true rfl) (Nat.le_refl _) ⟨Nat.le_refl _, Nat.le_refl _⟩ (m_Ci h (fun v9 M8 h => ?_))
      show m_W (d + 1) 0 0 yX11_readsFactor cX11_readsFactor 2 (some .boolean) (m_qi Th Q) 51 [(0, .ref a0)] [.int v9] Th M8 0 0
      refine m_invS (As := [.int v9]) (d' := d) (mc' := 0) (ms' := 0) (rest := []) i_11_factOf s_11_factOf l_X11_225 dX11_readsFactor_51 rfl rfl (Nat.le_of_ble_eq_true rfl) (Nat.le_refl _) ⟨Nat.le_refl _, Nat.le_refl _⟩ (m_Ci h (fun v11 M10 h => ?_))
      show m_W (d + 1) 0 0 yX11_readsFactor cX11_readsFactor 2 (some .boolean) (m_qi Th Q) 54 [(0, .ref a0)] [.int v11] Th M10 0 0
      refine m_istore_n (lv' := [(1, .int v11), (0, .ref a0)]) dX11_readsFactor_54 rfl (by decide) rfl ?_
      refine m_iload_n dX11_readsFactor_55 rfl 0 rfl ?_
      refine m_iconst (v := (-1)) dX11_readsFactor_56 (by decide) ?_
      refine m_icmp_ne (tgt := 70) dX11_readsFactor_57 (by decide) (fun c1 => ?_) (fun c1 => ?_)
      · rw [if_neg c1] at h
        refine m_aload_n dX11_readsFactor_70 rfl 1 rfl ?_
        refine m_iconst (v := 1) dX11_readsFactor_71 (by decide) ?_
        refine m_iload_n dX11_readsFactor_72 rfl 0 rfl ?_
        refine m_invV (ci := 11) (As := [.int 1, .int v11]) (d' := d) (mc' := 0) (ms' := 0) (rest := []) i_11_notes v_11_notes t_11_notes l_X11_215 ⟨_, _, rfl⟩ dX11_readsFactor_73 rfl rfl q3 (Nat.le_of_ble_eq_true rfl) (Nat.le_refl _) ⟨Nat.le_refl _, Nat.le_refl _⟩ (m_Cv h (fun M14 h => ?_))
        show m_W (d + 1) 0 0 yX11_readsFactor cX11_readsFactor 2 (some .boolean) (m_qi Th Q) 76 [(1, .int v11), (0, .ref a0)] [] Th M14 0 0
        refine m_aload_n dX11_readsFactor_76 rfl 1 rfl ?_
        refine m_aload_n dX11_readsFactor_77 rfl 1 rfl ?_
        refine m_geti f_X11_179 rfl dX11_readsFactor_78 q3 ?_
        refine m_iconst (v := 1) dX11_readsFactor_81 (by decide) ?_
        refine m_iadd dX11_readsFactor_82 ?_
        refine m_puti f_X11_179 rfl (Or.inl rfl) dX11_readsFactor_83 q3 ⟨rfl, rfl⟩ ?_
        refine m_iconst (v := 1) dX11_readsFactor_86 (by decide) ?_
        exact m_ireturn dX11_readsFactor_87 rfl (by decide) ⟨rfl, _, rfl, h⟩
      · rw [if_pos c1] at h
        refine m_aload_n dX11_readsFactor_60 rfl 1 rfl ?_
        refine m_iconst (v := 1) dX11_readsFactor_61 (by decide) ?_
        refine m_aload_n dX11_readsFactor_62 rfl 1 rfl ?_
        refine m_geti f_X11_179 rfl dX11_readsFactor_63 q3 ?_
        refine m_invV (ci := 11) (As := [.int 1, .int (((M10).1 a0 13))]) (d' := d) (mc' := 0) (ms' := 0) (rest := []) i_11_wrong v_11_wrong t_11_wrong l_X11_191 ⟨_, _, rfl⟩ dX11_readsFactor_66 rfl rfl q3 (Nat.le_of_ble_eq_true rfl) (Nat.le_refl _) ⟨Nat.le_refl _, Nat.le_refl _⟩ (m_Ci h (fun v13 M12 h => ?_))
        show m_W (d + 1) 0 0 yX11_readsFactor cX11_readsFactor 2 (some .boolean) (m_qi Th Q) 69 [(1, .int v11), (0, .ref a0)] [.int v13] Th M12 0 0
        exact m_ireturn dX11_readsFactor_69 rfl h.1 ⟨rfl, _, rfl, h.2⟩
    · rw [if_neg c1] at h
      refine m_aload_n dX11_readsFactor_27 rfl 0 rfl ?_
      refine m_invV (ci := 11) (As := []) (d' := d) (mc' := 0) (ms' := 0) (rest := []) i_11_readsNumber v_11_readsNumber t_11_readsNumber l_X11_222 ⟨_, _, rfl⟩ dX11_readsFactor_28 rfl rfl q3 (Nat.le_of_ble_eq_true rfl) (Nat.le_refl _) ⟨Nat.le_refl _, Nat.le_refl _⟩ (m_Ci h (fun v17 M16 h => ?_))
      show m_W (d + 1) 0 0 yX11_readsFactor cX11_readsFactor 2 (some .boolean) (m_qi Th Q) 31 [(0, .ref a0)] [.int v17] Th M16 0 0
      refine m_if_ne (tgt := 36) dX11_readsFactor_31 (by decide) (fun c1 => ?_) (fun c1 => ?_)
      · rw [if_neg c1] at h
        refine m_aload_n dX11_readsFactor_36 rfl 0 rfl ?_
        refine m_iconst (v := 0) dX11_readsFactor_37 (by decide) ?_
        refine m_aload_n dX11_readsFactor_38 rfl 0 rfl ?_
        refine m_geti f_X11_195 rfl dX11_readsFactor_39 q3 ?_
        refine m_invV (ci := 11) (As := [.int 0, .int (((M16).1 a0 20))]) (d' := d) (mc' := 0) (ms' := 0) (rest := []) i_11_notes v_11_notes t_11_notes l_X11_215 ⟨_, _, rfl⟩ dX11_readsFactor_42 rfl rfl q3 (Nat.le_of_ble_eq_true rfl) (Nat.le_refl _) ⟨Nat.le_refl _, Nat.le_refl _⟩ (m_Cv h (fun M18 h => ?_))
        show m_W (d + 1) 0 0 yX11_readsFactor cX11_readsFactor 2 (some .boolean) (m_qi Th Q) 45 [(0, .ref a0)] [] Th M18 0 0
        refine m_iconst (v := 1) dX11_readsFactor_45 (by decide) ?_
        exact m_ireturn dX11_readsFactor_46 rfl (by decide) ⟨rfl, _, rfl, h⟩
      · rw [if_pos c1] at h
        refine m_iconst (v := 0) dX11_readsFactor_34 (by decide) ?_
        exact m_ireturn dX11_readsFactor_35 rfl (by decide) ⟨rfl, _, rfl, h⟩
  · rw [if_pos c1] at h
    refine m_aload_n dX11_readsFactor_9 rfl 0 rfl ?_
    refine m_bipush (v := 14) dX11_readsFactor_10 (by decide) ?_
    refine m_invV (ci := 11) (As := [.int 14]) (d' := d) (mc' := 0) (ms' := 0) (rest := []) i_11_opens v_11_opens t_11_opens l_X11_219 ⟨_, _, rfl⟩ dX11_readsFactor_12 rfl rfl q3 (Nat.le_of_ble_eq_true rfl) (Nat.le_refl _) ⟨Nat.le_refl _, Nat.le_refl _⟩ (m_Ci h (fun v5 M4 h => ?_))
    show m_W (d + 1) 0 0 yX11_readsFactor cX11_readsFactor 2 (some .boolean) (m_qi Th Q) 15 [(0, .ref a0)] [.int v5] Th M4 0 0
    refine m_if_ne (tgt := 0) dX11_readsFactor_15 (by decide) (fun c1 => ?_) (fun c1 => ?_)
    · rw [if_neg c1] at h
      exact h
    · rw [if_pos c1] at h
      refine m_iconst (v := 0) dX11_readsFactor_18 (by decide) ?_
      exact m_ireturn dX11_readsFactor_19 rfl (by decide) ⟨rfl, _, rfl, h⟩
set_option maxHeartbeats 4000000 in
set_option maxRecDepth 100000 in
theorem e11_readsFactor {d : Nat} {Th : mT} {Q : Int32 → mM → Prop} {a0 : Nat} {M : mM} (h : H11_readsFactor_0 (d + 1) Th Q a0 M) : P11_readsFactor (d + 1) Th a0 M Q := by
  refine m_C.of (by decide +kernel) (Nat.le_of_ble_eq_true rfl) ?_
  show m_W (d + 1) 0 0 yX11_readsFactor cX11_readsFactor 2 (some .boolean) (m_qi Th Q) 0 [(0, .ref a0)] [] Th M 0 0
  exact h
set_option maxHeartbeats 4000000 in
set_option maxRecDepth 100000 in
theorem h11_hasOpenSum_2 {d : Nat} {Th : mT} {Q : Int32 → mM → Prop} {a0 : Nat} {x2 : Int32} {M : mM} (h : Th.2.2 a0 = some (.inl 11) ∧ (if ((M).1 a0 18) ≤ x2 then (Q 0 M) else (∃ r2 : Nat, M.2.2 a0 23 = some r2 ∧ (m_ok Th r2 .int x2 ∧ (if (((M).1 r2 (Int32.toNatClampNeg x2)) / 1048576) = 14 then (Q 1 M) else (H11_hasOpenSum_2 (d + 1) Th Q a0 (x2 + 1) M)))))) : H11_hasOpenSum_2 (d + 1) Th Q a0 x2 M := by
  show m_W (d + 1) 0 0 yX11_hasOpenSum cX11_hasOpenSum 3 (some .boolean) (m_qi Th Q) 2 [(0, .ref a0), (2, .int x2)] [] Th M 0 0
  refine m_iload_n dX11_hasOpenSum_2 rfl 1 rfl ?_
  refine m_aload_n dX11_hasOpenSum_3 rfl 0 rfl ?_
  obtain ⟨q1, h⟩ := h
  refine m_geti f_X11_209 rfl dX11_hasOpenSum_4 q1 ?_
  refine m_icmp_ge (tgt := 32) dX11_hasOpenSum_7 (by decide) (fun c1 => ?_) (fun c1 => ?_)
  · rw [if_pos c1] at h
    refine m_iconst (v := 0) dX11_hasOpenSum_32 (by decide) ?_
    exact m_ireturn dX11_hasOpenSum_33 rfl (by decide) ⟨rfl, _, rfl, h⟩
  · rw [if_neg c1] at h
    refine m_aload_n dX11_hasOpenSum_10 rfl 0 rfl ?_
    obtain ⟨r2, q3, h⟩ := h
    refine m_getr f_X11_35 rfl dX11_hasOpenSum_11 q1 q3 ?_
    refine m_iload_n dX11_hasOpenSum_14 rfl 1 rfl ?_
    obtain ⟨q4, h⟩ := h
    refine m_iald dX11_hasOpenSum_15 q4 ?_
    refine m_ldc k_X11_205 dX11_hasOpenSum_16 ?_
    refine m_idiv dX11_hasOpenSum_18 (by decide) ?_
    refine m_bipush (v := 14) dX11_hasOpenSum_19 (by decide) ?_
    refine m_icmp_ne (tgt := 26) dX11_hasOpenSum_21 (by decide) (fun c1 => ?_) (fun c1 => ?_)
    · rw [if_neg c1] at h
      refine m_iinc (v := x2 + 1) (lv' := [(2, .int (x2 + 1)), (0, .ref a0)]) dX11_hasOpenSum_26 1 rfl rfl (by decide) rfl ?_
      refine m_goto (tgt := 2) dX11_hasOpenSum_29 (by decide) ?_
      exact m_sub [1, 0] rfl h
    · rw [if_pos c1] at h
      refine m_iconst (v := 1) dX11_hasOpenSum_24 (by decide) ?_
      exact m_ireturn dX11_hasOpenSum_25 rfl (by decide) ⟨rfl, _, rfl, h⟩
set_option maxHeartbeats 4000000 in
set_option maxRecDepth 100000 in
theorem e11_hasOpenSum {d : Nat} {Th : mT} {Q : Int32 → mM → Prop} {a0 : Nat} {x1 : Int32} {M : mM} (h : H11_hasOpenSum_2 (d + 1) Th Q a0 x1 M) : P11_hasOpenSum (d + 1) Th a0 x1 M Q := by
  refine m_C.of (by decide +kernel) (Nat.le_of_ble_eq_true rfl) ?_
  show m_W (d + 1) 0 0 yX11_hasOpenSum cX11_hasOpenSum 3 (some .boolean) (m_qi Th Q) 0 [(0, .ref a0), (1, .int x1)] [] Th M 0 0
  refine m_iload_n dX11_hasOpenSum_0 rfl 1 rfl ?_
  refine m_istore_n (lv' := [(2, .int x1), (0, .ref a0), (1, .int x1)]) dX11_hasOpenSum_1 rfl (by decide) rfl ?_
  exact m_sub [1, 0] rfl h
set_option maxHeartbeats 4000000 in
set_option maxRecDepth 100000 in
theorem h11_readsSum_14 {d : Nat} {Th : mT} {Q : Int32 → mM → Prop} {a0 : Nat} {x1 : Int32} {M : mM} (h : Th.2.2 a0 = some (.inl 11) ∧ (P11_here d Th a0 M (fun (v2 : Int32) (M1 : mM) => P11_sumSign d Th v2 M1 (fun (v5 : Int32) (M4 : mM) => if v5 = (-1) then (P11_here d Th a0 M4 (fun (v7 : Int32) (M6 : mM) => if v7 = 93 then (P11_hasOpenSum d Th a0 x1 M6 (fun (v9 : Int32) (M8 : mM) => if v9 = 0 then (H11_readsSum_138 (d + 1) Th Q a0 x1 M8) else (P11_closesSums d Th a0 1 M8 (fun M10 : mM => ∀ M12 : mM, M12 = m_ui M10 a0 18 ((((M10).1 a0 18) - 1)) → ∀ M13 : mM, M13 = m_ui M12 a0 16 ((((M12).1 a0 16) - 1)) → H11_readsSum_14 (d + 1) Th Q a0 x1 (m_ui M13 a0 13 ((((M13).1 a0 13) + 1))))))) else (H11_readsSum_138 (d + 1) Th Q a0 x1 M6))) else (P11_closesSums d Th a0 ((if 4 ≤ v5 then 0 else 1)) M4 (fun M14 : mM => ∃ r16 : Nat, M14.2.2 a0 23 = some r16 ∧ (m_okw Th r16 .int (((M14).1 a0 18)) ∧ (∀ M19 : mM, M19 = m_ui M14 r16 (Int32.toNatClampNeg (((M14).1 a0 18))) ((1048576 * v5)) → ∀ M20 : mM, M20 = m_ui M19 a0 18 ((((M19).1 a0 18) + 1)) → P11_readsFactor d Th a0 (m_ui M20 a0 13 ((((M20).1 a0 13) + 1))) (fun (v22 : Int32) (M21 : mM) => if v22 = 0 then (Q 0 M21) else (H11_readsSum_14 (d + 1) Th Q a0 x1 M21)))))))))) : H11_readsSum_14 (d + 1) Th Q a0 x1 M := by
  show m_W (d + 1) 0 0 yX11_readsSum cX11_readsSum 3 (some .boolean) (m_qi Th Q) 14 [(0, .ref a0), (1, .int x1)] [] Th M 0 0
  refine m_aload_n dX11_readsSum_14 rfl 0 rfl ?_
  obtain ⟨q3, h⟩ := h
  refine m_invV (ci := 11) (As := []) (d' := d) (mc' := 0) (ms' := 0) (rest := []) i_11_here v_11_here t_11_here l_X11_185 ⟨_, _, rfl⟩ dX11_readsSum_15 rfl rfl q3 (Nat.le_of_ble_eq_true rfl) (Nat.le_refl _) ⟨Nat.le_refl _, Nat.le_refl _⟩ (m_Ci h (fun v2 M1 h => ?_))
  show m_W (d + 1) 0 0 yX11_readsSum cX11_readsSum 3 (some .boolean) (m_qi Th Q) 18 [(0, .ref a0), (1, .int x1)] [.int v2] Th M1 0 0
  refine m_invS (As := [.int v2]) (d' := d) (mc' := 0) (ms' := 0) (rest := []) i_11_sumSign s_11_sumSign l_X11_232 dX11_readsSum_18 rfl rfl (Nat.le_of_ble_eq_true rfl) (Nat.le_refl _) ⟨Nat.le_refl _, Nat.le_refl _⟩ (m_Ci h (fun v5 M4 h => ?_))
  show m_W (d + 1) 0 0 yX11_readsSum cX11_readsSum 3 (some .boolean) (m_qi Th Q) 21 [(0, .ref a0), (1, .int x1)] [.int v5] Th M4 0 0
  refine m_istore_n (lv' := [(2, .int v5), (0, .ref a0), (1, .int x1)]) dX11_readsSum_21 rfl (by decide) rfl ?_
  refine m_iload_n dX11_readsSum_22 rfl 0 rfl ?_
  refine m_iconst (v := (-1)) dX11_readsSum_23 (by decide) ?_
  refine m_icmp_eq (tgt := 83) dX11_readsSum_24 (by decide) (fun c1 => ?_) (fun c1 => ?_)
  · rw [if_pos c1] at h
    refine m_aload_n dX11_readsSum_83 rfl 1 rfl ?_
    refine m_invV (ci := 11) (As := []) (d' := d) (mc' := 0) (ms' := 0) (rest := []) i_11_here v_11_here t_11_here l_X11_185 ⟨_, _, rfl⟩ dX11_readsSum_84 rfl rfl q3 (Nat.le_of_ble_eq_true rfl) (Nat.le_refl _) ⟨Nat.le_refl _, Nat.le_refl _⟩ (m_Ci h (fun v7 M6 h => ?_))
    show m_W (d + 1) 0 0 yX11_readsSum cX11_readsSum 3 (some .boolean) (m_qi Th Q) 87 [(2, .int v5), (0, .ref a0), (1, .int x1)] [.int v7] Th M6 0 0
    refine m_bipush (v := 93) dX11_readsSum_87 (by decide) ?_
    refine m_icmp_ne (tgt := 138) dX11_readsSum_89 (by decide) (fun c1 => ?_) (fun c1 => ?_)
    · rw [if_neg c1] at h
      exact m_sub [1, 2] rfl h
    · rw [if_pos c1] at h
      refine m_aload_n dX11_readsSum_92 rfl 1 rfl ?_
      refine m_iload_n dX11_readsSum_93 rfl 2 rfl ?_
      refine m_invV (ci := 11) (As := [.int x1]) (d' := d) (mc' := 0) (ms' := 0) (rest := []) i_11_hasOpenSum v_11_hasOpenSum t_11_hasOpenSum l_X11_239 ⟨_, _, rfl⟩ dX11_readsSum_94 rfl rfl q3 (Nat.le_of_ble_eq_true rfl) (Nat.le_refl _) ⟨Nat.le_refl _, Nat.le_refl _⟩ (m_Ci h (fun v9 M8 h => ?_))
      show m_W (d + 1) 0 0 yX11_readsSum cX11_readsSum 3 (some .boolean) (m_qi Th Q) 97 [(2, .int v5), (0, .ref a0), (1, .int x1)] [.int v9] Th M8 0 0
      refine m_if_eq (tgt := 138) dX11_readsSum_97 (by decide) (fun c1 => ?_) (fun c1 => ?_)
      · rw [if_pos c1] at h
        exact m_sub [1, 2] rfl h
      · rw [if_neg c1] at h
        refine m_aload_n dX11_readsSum_100 rfl 1 rfl ?_
        refine m_iconst (v := 1) dX11_readsSum_101 (by decide) ?_
        refine m_invV (ci := 11) (As := [.int 1]) (d' := d) (mc' := 0) (ms' := 0) (rest := []) i_11_closesSums v_11_closesSums t_11_closesSums l_X11_235 ⟨_, _, rfl⟩ dX11_readsSum_102 rfl rfl q3 (Nat.le_of_ble_eq_true rfl) (Nat.le_refl _) ⟨Nat.le_refl _, Nat.le_refl _⟩ (m_Cv h (fun M10 h => ?_))
        show m_W (d + 1) 0 0 yX11_readsSum cX11_readsSum 3 (some .boolean) (m_qi Th Q) 105 [(2, .int v5), (0, .ref a0), (1, .int x1)] [] Th M10 0 0
        refine m_aload_n dX11_readsSum_105 rfl 1 rfl ?_
        refine m_aload_n dX11_readsSum_106 rfl 1 rfl ?_
        refine m_geti f_X11_209 rfl dX11_readsSum_107 q3 ?_
        refine m_iconst (v := 1) dX11_readsSum_110 (by decide) ?_
        refine m_isub dX11_readsSum_111 ?_
        refine m_puti f_X11_209 rfl (Or.inl rfl) dX11_readsSum_112 q3 ⟨rfl, rfl⟩ ?_
        refine m_aload_n dX11_readsSum_115 rfl 1 rfl ?_
        refine m_aload_n dX11_readsSum_116 rfl 1 rfl ?_
        obtain ⟨M12, e_M12⟩ : ∃ M12 : mM, M12 = m_ui M10 a0 18 ((((M10).1 a0 18) - 1)) := ⟨_, rfl⟩
        have h := h M12 e_M12
        rw [← e_M12]
        refine m_geti f_X11_206 rfl dX11_readsSum_117 q3 ?_
        refine m_iconst (v := 1) dX11_readsSum_120 (by decide) ?_
        refine m_isub dX11_readsSum_121 ?_
        refine m_puti f_X11_206 rfl (Or.inl rfl) dX11_readsSum_122 q3 ⟨rfl, rfl⟩ ?_
        refine m_aload_n dX11_readsSum_125 rfl 1 rfl ?_
        refine m_aload_n dX11_readsSum_126 rfl 1 rfl ?_
        obtain ⟨M13, e_M13⟩ : ∃ M13 : mM, M13 = m_ui M12 a0 16 ((((M12).1 a0 16) - 1)) := ⟨_, rfl⟩
        have h := h M13 e_M13
        rw [← e_M13]
        refine m_geti f_X11_179 rfl dX11_readsSum_127 q3 ?_
        refine m_iconst (v := 1) dX11_readsSum_130 (by decide) ?_
        refine m_iadd dX11_readsSum_131 ?_
        refine m_puti f_X11_179 rfl (Or.inl rfl) dX11_readsSum_132 q3 ⟨rfl, rfl⟩ ?_
        refine m_goto (tgt := 163) dX11_readsSum_135 (by decide) ?_
        refine m_goto (tgt := 14) dX11_readsSum_163 (by decide) ?_
        exact m_sub [1, 2] rfl h
  · rw [if_neg c1] at h
    refine m_aload_n dX11_readsSum_27 rfl 1 rfl ?_
    refine m_iload_n dX11_readsSum_28 rfl 0 rfl ?_
    refine m_iconst (v := 4) dX11_readsSum_29 (by decide) ?_
    have hJ : m_W (d + 1) 0 0 yX11_readsSum cX11_readsSum 3 (some .boolean) (m_qi Th Q) 38 [(2, .int v5), (0, .ref a0), (1, .int x1)] [.int ((if 4 ≤ v5 then 0 else 1)), .ref a0] Th M4 0 0 := by
      refine m_invV (ci := 11) (As := [.int ((if 4 ≤ v5 then 0 else 1))]) (d' := d) (mc' := 0) (ms' := 0) (rest := []) i_11_closesSums v_11_closesSums t_11_closesSums l_X11_235 ⟨_, _, rfl⟩ dX11_readsSum_38 rfl rfl q3 (Nat.le_of_ble_eq_true rfl) (Nat.le_refl _) ⟨Nat.le_refl _, Nat.le_refl _⟩ (m_Cv h (fun M14 h => ?_))
      show m_W (d + 1) 0 0 yX11_readsSum cX11_readsSum 3 (some .boolean) (m_qi Th Q) 41 [(2, .int v5), (0, .ref a0), (1, .int x1)] [] Th M14 0 0
      refine m_aload_n dX11_readsSum_41 rfl 1 rfl ?_
      obtain ⟨r16, q17, h⟩ := h
      refine m_getr f_X11_35 rfl dX11_readsSum_42 q3 q17 ?_
      refine m_aload_n dX11_readsSum_45 rfl 1 rfl ?_
      refine m_geti f_X11_209 rfl dX11_readsSum_46 q3 ?_
      refine m_ldc k_X11_205 dX11_readsSum_49 ?_
      refine m_iload_n dX11_readsSum_51 rfl 0 rfl ?_
      refine m_imul dX11_readsSum_52 ?_
      obtain ⟨q18, h⟩ := h
      refine m_iast dX11_readsSum_53 q18 ?_
      refine m_aload_n dX11_readsSum_54 rfl 1 rfl ?_
      refine m_aload_n dX11_readsSum_55 rfl 1 rfl ?_
      obtain ⟨M19, e_M19⟩ : ∃ M19 : mM, M19 = m_ui M14 r16 (Int32.toNatClampNeg (((M14).1 a0 18))) ((1048576 * v5)) := ⟨_, rfl⟩
      have h := h M19 e_M19
      rw [← e_M19]
      refine m_geti f_X11_209 rfl dX11_readsSum_56 q3 ?_
      refine m_iconst (v := 1) dX11_readsSum_59 (by decide) ?_
      refine m_iadd dX11_readsSum_60 ?_
      refine m_puti f_X11_209 rfl (Or.inl rfl) dX11_readsSum_61 q3 ⟨rfl, rfl⟩ ?_
      refine m_aload_n dX11_readsSum_64 rfl 1 rfl ?_
      refine m_aload_n dX11_readsSum_65 rfl 1 rfl ?_
      obtain ⟨M20, e_M20⟩ : ∃ M20 : mM, M20 = m_ui M19 a0 18 ((((M19).1 a0 18) + 1)) := ⟨_, rfl⟩
      have h := h M20 e_M20
      rw [← e_M20]
      refine m_geti f_X11_179 rfl dX11_readsSum_66 q3 ?_
      refine m_iconst (v := 1) dX11_readsSum_69 (by decide) ?_
      refine m_iadd dX11_readsSum_70 ?_
      refine m_puti f_X11_179 rfl (Or.inl rfl) dX11_readsSum_71 q3 ⟨rfl, rfl⟩ ?_
      refine m_aload_n dX11_readsSum_74 rfl 1 rfl ?_
      refine m_invV (ci := 11) (As := []) (d' := d) (mc' := 0) (ms' := 0) (rest := []) i_11_readsFactor v_11_readsFactor t_11_readsFactor l_X11_229 ⟨_, _, rfl⟩ dX11_readsSum_75 rfl rfl q3 (Nat.le_of_ble_eq_true rfl) (Nat.le_refl _) ⟨Nat.le_refl _, Nat.le_refl _⟩ (m_Ci h (fun v22 M21 h => ?_))
      show m_W (d + 1) 0 0 yX11_readsSum cX11_readsSum 3 (some .boolean) (m_qi Th Q) 78 [(2, .int v5), (0, .ref a0), (1, .int x1)] [.int v22] Th M21 0 0
      refine m_if_ne (tgt := 163) dX11_readsSum_78 (by decide) (fun c1 => ?_) (fun c1 => ?_)
      · rw [if_neg c1] at h
        refine m_goto (tgt := 14) dX11_readsSum_163 (by decide) ?_
        exact m_sub [1, 2] rfl h
      · rw [if_pos c1] at h
        refine m_iconst (v := 0) dX11_readsSum_81 (by decide) ?_
        exact m_ireturn dX11_readsSum_82 rfl (by decide) ⟨rfl, _, rfl, h⟩
    refine m_icmp_ge (tgt := 37) dX11_readsSum_30 (by decide) (fun c1 => ?_) (fun c1 => ?_)
    · simp only [if_pos c1] at hJ
      refine m_iconst (v := 0) dX11_readsSum_37 (by decide) ?_
      exact hJ
    · simp only [if_neg c1] at hJ
      refine m_iconst (v := 1) dX11_readsSum_33 (by decide) ?_
      refine m_goto (tgt := 38) dX11_readsSum_34 (by decide) ?_
      exact hJ
set_option maxHeartbeats 4000000 in
set_option maxRecDepth 100000 in
theorem h11_readsSum_138 {d : Nat} {Th : mT} {Q : Int32 → mM → Prop} {a0 : Nat} {x1 : Int32} {M : mM} (h : Th.2.2 a0 = some (.inl 11) ∧ (P11_hasOpenSum d Th a0 x1 M (fun (v2 : Int32) (M1 : mM) => if v2 = 0 then (P11_closesSums d Th a0 1 M1 (fun M4 : mM => Q 1 M4)) else (P11_wrong d Th a0 1 (((M1).1 a0 13)) M1 (fun (v7 : Int32) (M6 : mM) => m_bool v7 ∧ Q v7 M6))))) : H11_readsSum_138 (d + 1) Th Q a0 x1 M := by
  show m_W (d + 1) 0 0 yX11_readsSum cX11_readsSum 3 (some .boolean) (m_qi Th Q) 138 [(0, .ref a0), (1, .int x1)] [] Th M 0 0
  refine m_aload_n dX11_readsSum_138 rfl 0 rfl ?_
  refine m_iload_n dX11_readsSum_139 rfl 1 rfl ?_
  obtain ⟨q3, h⟩ := h
  refine m_invV (ci := 11) (As := [.int x1]) (d' := d) (mc' := 0) (ms' := 0) (rest := []) i_11_hasOpenSum v_11_hasOpenSum t_11_hasOpenSum l_X11_239 ⟨_, _, rfl⟩ dX11_readsSum_140 rfl rfl q3 (Nat.le_of_ble_eq_true rfl) (Nat.le_refl _) ⟨Nat.le_refl _, Nat.le_refl _⟩ (m_Ci h (fun v2 M1 h => ?_))
  show m_W (d + 1) 0 0 yX11_readsSum cX11_readsSum 3 (some .boolean) (m_qi Th Q) 143 [(0, .ref a0), (1, .int x1)] [.int v2] Th M1 0 0
  refine m_if_eq (tgt := 156) dX11_readsSum_143 (by decide) (fun c1 => ?_) (fun c1 => ?_)
  · rw [if_pos c1] at h
    refine m_aload_n dX11_readsSum_156 rfl 0 rfl ?_
    refine m_iconst (v := 1) dX11_readsSum_157 (by decide) ?_
    refine m_invV (ci := 11) (As := [.int 1]) (d' := d) (mc' := 0) (ms' := 0) (rest := []) i_11_closesSums v_11_closesSums t_11_closesSums l_X11_235 ⟨_, _, rfl⟩ dX11_readsSum_158 rfl rfl q3 (Nat.le_of_ble_eq_true rfl) (Nat.le_refl _) ⟨Nat.le_refl _, Nat.le_refl _⟩ (m_Cv h (fun M4 h => ?_))
    show m_W (d + 1) 0 0 yX11_readsSum cX11_readsSum 3 (some .boolean) (m_qi Th Q) 161 [(0, .ref a0), (1, .int x1)] [] Th M4 0 0
    refine m_iconst (v := 1) dX11_readsSum_161 (by decide) ?_
    exact m_ireturn dX11_readsSum_162 rfl (by decide) ⟨rfl, _, rfl, h⟩
  · rw [if_neg c1] at h
    refine m_aload_n dX11_readsSum_146 rfl 0 rfl ?_
    refine m_iconst (v := 1) dX11_readsSum_147 (by decide) ?_
    refine m_aload_n dX11_readsSum_148 rfl 0 rfl ?_
    refine m_geti f_X11_179 rfl dX11_readsSum_149 q3 ?_
    refine m_invV (ci := 11) (As := [.int 1, .int (((M1).1 a0 13))]) (d' := d) (mc' := 0) (ms' := 0) (rest := []) i_11_wrong v_11_wrong t_11_wrong l_X11_191 ⟨_, _, rfl⟩ dX11_readsSum_152 rfl rfl q3 (Nat.le_of_ble_eq_true rfl) (Nat.le_refl _) ⟨Nat.le_refl _, Nat.le_refl _⟩ (m_Ci h (fun v7 M6 h => ?_))
    show m_W (d + 1) 0 0 yX11_readsSum cX11_readsSum 3 (some .boolean) (m_qi Th Q) 155 [(0, .ref a0), (1, .int x1)] [.int v7] Th M6 0 0
    exact m_ireturn dX11_readsSum_155 rfl h.1 ⟨rfl, _, rfl, h.2⟩
set_option maxHeartbeats 4000000 in
set_option maxRecDepth 100000 in
theorem e11_readsSum {d : Nat} {Th : mT} {Q : Int32 → mM → Prop} {a0 : Nat} {M : mM} (h : Th.2.2 a0 = some (.inl 11) ∧ (∀ xv2 : Int32, xv2 = ((M).1 a0 18) → P11_readsFactor d Th a0 M (fun (v4 : Int32) (M3 : mM) => if v4 = 0 then (Q 0 M3) else (H11_readsSum_14 (d + 1) Th Q a0 xv2 M3)))) : P11_readsSum (d + 1) Th a0 M Q := by
  refine m_C.of (by decide +kernel) (Nat.le_of_ble_eq_true rfl) ?_
  show m_W (d + 1) 0 0 yX11_readsSum cX11_readsSum 3 (some .boolean) (m_qi Th Q) 0 [(0, .ref a0)] [] Th M 0 0
  refine m_aload_n dX11_readsSum_0 rfl 0 rfl ?_
  obtain ⟨q1, h⟩ := h
  refine m_geti f_X11_209 rfl dX11_readsSum_1 q1 ?_
  obtain ⟨xv2, e_xv2⟩ : ∃ xv2 : Int32, xv2 = ((M).1 a0 18) := ⟨_, rfl⟩
  have h := h xv2 e_xv2
  rw [← e_xv2]
  refine m_istore_n (lv' := [(1, .int xv2), (0, .ref a0)]) dX11_readsSum_4 rfl (by decide) rfl ?_
  refine m_aload_n dX11_readsSum_5 rfl 1 rfl ?_
  refine m_invV (ci := 11) (As := []) (d' := d) (mc' := 0) (ms' := 0) (rest := []) i_11_readsFactor v_11_readsFactor t_11_readsFactor l_X11_229 ⟨_, _, rfl⟩ dX11_readsSum_6 rfl rfl q1 (Nat.le_of_ble_eq_true rfl) (Nat.le_refl _) ⟨Nat.le_refl _, Nat.le_refl _⟩ (m_Ci h (fun v4 M3 h => ?_))
  show m_W (d + 1) 0 0 yX11_readsSum cX11_readsSum 3 (some .boolean) (m_qi Th Q) 9 [(1, .int xv2), (0, .ref a0)] [.int v4] Th M3 0 0
  refine m_if_ne (tgt := 14) dX11_readsSum_9 (by decide) (fun c1 => ?_) (fun c1 => ?_)
  · rw [if_neg c1] at h
    exact m_sub [1, 0] rfl h
  · rw [if_pos c1] at h
    refine m_iconst (v := 0) dX11_readsSum_12 (by decide) ?_
    exact m_ireturn dX11_readsSum_13 rfl (by decide) ⟨rfl, _, rfl, h⟩
set_option maxHeartbeats 4000000 in
set_option maxRecDepth 100000 in
theorem h11_endsPiece_0 {d : Nat} {Th : mT} {Q : mM → Prop} {a0 : Nat} {M : mM} (h : Th.2.2 a0 = some (.inl 11) ∧ (P11_top d Th a0 M (fun (v2 : Int32) (M1 : mM) => if v2 = 10 then (P11_notes d Th a0 10 0 M1 (fun M4 : mM => ∀ M6 : mM, M6 = m_ui M4 a0 18 ((((M4).1 a0 18) - 1)) → H11_endsPiece_0 (d + 1) Th Q a0 (m_ui M6 a0 16 ((((M6).1 a0 16) - 1))))) else (Q M1)))) : H11_endsPiece_0 (d + 1) Th Q a0 M := by
  show m_W (d + 1) 0 0 yX11_endsPiece cX11_endsPiece 1 none (m_qv Th Q) 0 [(0, .ref a0)] [] Th M 0 0
  refine m_aload_n dX11_endsPiece_0 rfl 0 rfl ?_
  obtain ⟨q3, h⟩ := h
  refine m_invV (ci := 11) (As := []) (d' := d) (mc' := 0) (ms' := 0) (rest := []) i_11_top v_11_top t_11_top l_X11_212 ⟨_, _, rfl⟩ dX11_endsPiece_1 rfl rfl q3 (Nat.le_of_ble_eq_true rfl) (Nat.le_refl _) ⟨Nat.le_refl _, Nat.le_refl _⟩ (m_Ci h (fun v2 M1 h => ?_))
  show m_W (d + 1) 0 0 yX11_endsPiece cX11_endsPiece 1 none (m_qv Th Q) 4 [(0, .ref a0)] [.int v2] Th M1 0 0
  refine m_bipush (v := 10) dX11_endsPiece_4 (by decide) ?_
  refine m_icmp_ne (tgt := 39) dX11_endsPiece_6 (by decide) (fun c1 => ?_) (fun c1 => ?_)
  · rw [if_neg c1] at h
    exact m_return dX11_endsPiece_39 rfl ⟨rfl, rfl, h⟩
  · rw [if_pos c1] at h
    refine m_aload_n dX11_endsPiece_9 rfl 0 rfl ?_
    refine m_bipush (v := 10) dX11_endsPiece_10 (by decide) ?_
    refine m_iconst (v := 0) dX11_endsPiece_12 (by decide) ?_
    refine m_invV (ci := 11) (As := [.int 10, .int 0]) (d' := d) (mc' := 0) (ms' := 0) (rest := []) i_11_notes v_11_notes t_11_notes l_X11_215 ⟨_, _, rfl⟩ dX11_endsPiece_13 rfl rfl q3 (Nat.le_of_ble_eq_true rfl) (Nat.le_refl _) ⟨Nat.le_refl _, Nat.le_refl _⟩ (m_Cv h (fun M4 h => ?_))
    show m_W (d + 1) 0 0 yX11_endsPiece cX11_endsPiece 1 none (m_qv Th Q) 16 [(0, .ref a0)] [] Th M4 0 0
    refine m_aload_n dX11_endsPiece_16 rfl 0 rfl ?_
    refine m_aload_n dX11_endsPiece_17 rfl 0 rfl ?_
    refine m_geti f_X11_209 rfl dX11_endsPiece_18 q3 ?_
    refine m_iconst (v := 1) dX11_endsPiece_21 (by decide) ?_
    refine m_isub dX11_endsPiece_22 ?_
    refine m_puti f_X11_209 rfl (Or.inl rfl) dX11_endsPiece_23 q3 ⟨rfl, rfl⟩ ?_
    refine m_aload_n dX11_endsPiece_26 rfl 0 rfl ?_
    refine m_aload_n dX11_endsPiece_27 rfl 0 rfl ?_
    obtain ⟨M6, e_M6⟩ : ∃ M6 : mM, M6 = m_ui M4 a0 18 ((((M4).1 a0 18) - 1)) := ⟨_, rfl⟩
    have h := h M6 e_M6
    rw [← e_M6]
    refine m_geti f_X11_206 rfl dX11_endsPiece_28 q3 ?_
    refine m_iconst (v := 1) dX11_endsPiece_31 (by decide) ?_
    refine m_isub dX11_endsPiece_32 ?_
    refine m_puti f_X11_206 rfl (Or.inl rfl) dX11_endsPiece_33 q3 ⟨rfl, rfl⟩ ?_
    refine m_goto (tgt := 0) dX11_endsPiece_36 (by decide) ?_
    exact h
set_option maxHeartbeats 4000000 in
set_option maxRecDepth 100000 in
theorem e11_endsPiece {d : Nat} {Th : mT} {Q : mM → Prop} {a0 : Nat} {M : mM} (h : H11_endsPiece_0 (d + 1) Th Q a0 M) : P11_endsPiece (d + 1) Th a0 M Q := by
  refine m_C.of (by decide +kernel) (Nat.le_of_ble_eq_true rfl) ?_
  show m_W (d + 1) 0 0 yX11_endsPiece cX11_endsPiece 1 none (m_qv Th Q) 0 [(0, .ref a0)] [] Th M 0 0
  exact h
set_option maxHeartbeats 4000000 in
set_option maxRecDepth 100000 in
theorem h11_lands_0 {d : Nat} {Th : mT} {Q : mM → Prop} {a0 : Nat} {x1 : Int32} {M : mM} (h : Th.2.2 a0 = some (.inl 11) ∧ (P11_top d Th a0 M (fun (v2 : Int32) (M1 : mM) => if v2 = 11 then (H11_lands_22 (d + 1) Th Q a0 x1 M1) else (if x1 = 0 then (Q M1) else (P11_top d Th a0 M1 (fun (v5 : Int32) (M4 : mM) => if v5 = 12 then (H11_lands_22 (d + 1) Th Q a0 x1 M4) else (Q M4))))))) : H11_lands_0 (d + 1) Th Q a0 x1 M := by
  show m_W (d + 1) 0 0 yX11_lands cX11_lands 3 none (m_qv Th Q) 0 [(0, .ref a0), (1, .int x1)] [] Th M 0 0
  refine m_aload_n dX11_lands_0 rfl 0 rfl ?_
  obtain ⟨q3, h⟩ := h
  refine m_invV (ci := 11) (As := []) (d' := d) (mc' := 0) (ms' := 0) (rest := []) i_11_top v_11_top t_11_top l_X11_212 ⟨_, _, rfl⟩ dX11_lands_1 rfl rfl q3 (Nat.le_of_ble_eq_true rfl) (Nat.le_refl _) ⟨Nat.le_refl _, Nat.le_refl _⟩ (m_Ci h (fun v2 M1 h => ?_))
  show m_W (d + 1) 0 0 yX11_lands cX11_lands 3 none (m_qv Th Q) 4 [(0, .ref a0), (1, .int x1)] [.int v2] Th M1 0 0
  refine m_bipush (v := 11) dX11_lands_4 (by decide) ?_
  refine m_icmp_eq (tgt := 22) dX11_lands_6 (by decide) (fun c1 => ?_) (fun c1 => ?_)
  · rw [if_pos c1] at h
    exact h
  · rw [if_neg c1] at h
    refine m_iload_n dX11_lands_9 rfl 1 rfl ?_
    refine m_if_eq (tgt := 73) dX11_lands_10 (by decide) (fun c1 => ?_) (fun c1 => ?_)
    · rw [if_pos c1] at h
      exact m_return dX11_lands_73 rfl ⟨rfl, rfl, h⟩
    · rw [if_neg c1] at h
      refine m_aload_n dX11_lands_13 rfl 0 rfl ?_
      refine m_invV (ci := 11) (As := []) (d' := d) (mc' := 0) (ms' := 0) (rest := []) i_11_top v_11_top t_11_top l_X11_212 ⟨_, _, rfl⟩ dX11_lands_14 rfl rfl q3 (Nat.le_of_ble_eq_true rfl) (Nat.le_refl _) ⟨Nat.le_refl _, Nat.le_refl _⟩ (m_Ci h (fun v5 M4 h => ?_))
      show m_W (d + 1) 0 0 yX11_lands cX11_lands 3 none (m_qv Th Q) 17 [(0, .ref a0), (1, .int x1)] [.int v5] Th M4 0 0
      refine m_bipush (v := 12) dX11_lands_17 (by decide) ?_
      refine m_icmp_ne (tgt := 73) dX11_lands_19 (by decide) (fun c1 => ?_) (fun c1 => ?_)
      · rw [if_neg c1] at h
        exact m_return dX11_lands_73 rfl ⟨rfl, rfl, h⟩
      · rw [if_pos c1] at h
        exact h
set_option maxHeartbeats 4000000 in
set_option maxRecDepth 100000 in
theorem h11_lands_22 {d : Nat} {Th : mT} {Q : mM → Prop} {a0 : Nat} {x1 : Int32} {M : mM} (h : Th.2.2 a0 = some (.inl 11) ∧ (∃ r2 : Nat, M.2.2 a0 23 = some r2 ∧ (m_ok Th r2 .int ((((M).1 a0 18) - 1)) ∧ (∀ xv5 : Int32, xv5 = (((M).1 r2 (Int32.toNatClampNeg ((((M).1 a0 18) - 1)))) - ((M).1 r2 (Int32.toNatClampNeg ((((M).1 a0 18) - 1)))) / 1048576 * 1048576) → ∃ r6 : Nat, M.2.2 a0 22 = some r6 ∧ (m_ok Th r6 .int xv5 ∧ (m_okw Th r6 .int xv5 ∧ (∀ M10 : mM, M10 = m_ui M r6 (Int32.toNatClampNeg xv5) (((1048576 * (((M).1 r6 (Int32.toNatClampNeg xv5)) / 1048576)) + ((M).1 a0 17))) → H11_lands_0 (d + 1) Th Q a0 x1 (m_ui M10 a0 18 ((((M10).1 a0 18) - 1)))))))))) : H11_lands_22 (d + 1) Th Q a0 x1 M := by
  show m_W (d + 1) 0 0 yX11_lands cX11_lands 3 none (m_qv Th Q) 22 [(0, .ref a0), (1, .int x1)] [] Th M 0 0
  refine m_aload_n dX11_lands_22 rfl 0 rfl ?_
  obtain ⟨q1, h⟩ := h
  obtain ⟨r2, q3, h⟩ := h
  refine m_getr f_X11_35 rfl dX11_lands_23 q1 q3 ?_
  refine m_aload_n dX11_lands_26 rfl 0 rfl ?_
  refine m_geti f_X11_209 rfl dX11_lands_27 q1 ?_
  refine m_iconst (v := 1) dX11_lands_30 (by decide) ?_
  refine m_isub dX11_lands_31 ?_
  obtain ⟨q4, h⟩ := h
  refine m_iald dX11_lands_32 q4 ?_
  refine m_ldc k_X11_205 dX11_lands_33 ?_
  refine m_irem dX11_lands_35 (by decide) ?_
  obtain ⟨xv5, e_xv5⟩ : ∃ xv5 : Int32, xv5 = (((M).1 r2 (Int32.toNatClampNeg ((((M).1 a0 18) - 1)))) - ((M).1 r2 (Int32.toNatClampNeg ((((M).1 a0 18) - 1)))) / 1048576 * 1048576) := ⟨_, rfl⟩
  have h := h xv5 e_xv5
  rw [← e_xv5]
  refine m_istore_n (lv' := [(2, .int xv5), (0, .ref a0), (1, .int x1)]) dX11_lands_36 rfl (by decide) rfl ?_
  refine m_aload_n dX11_lands_37 rfl 1 rfl ?_
  obtain ⟨r6, q7, h⟩ := h
  refine m_getr f_X11_32 rfl dX11_lands_38 q1 q7 ?_
  refine m_iload_n dX11_lands_41 rfl 0 rfl ?_
  refine m_ldc k_X11_205 dX11_lands_42 ?_
  refine m_aload_n dX11_lands_44 rfl 1 rfl ?_
  refine m_getr f_X11_32 rfl dX11_lands_45 q1 q7 ?_
  refine m_iload_n dX11_lands_48 rfl 0 rfl ?_
  obtain ⟨q8, h⟩ := h
  refine m_iald dX11_lands_49 q8 ?_
  refine m_ldc k_X11_205 dX11_lands_50 ?_
  refine m_idiv dX11_lands_52 (by decide) ?_
  refine m_imul dX11_lands_53 ?_
  refine m_aload_n dX11_lands_54 rfl 1 rfl ?_
  refine m_geti f_X11_202 rfl dX11_lands_55 q1 ?_
  refine m_iadd dX11_lands_58 ?_
  obtain ⟨q9, h⟩ := h
  refine m_iast dX11_lands_59 q9 ?_
  refine m_aload_n dX11_lands_60 rfl 1 rfl ?_
  refine m_aload_n dX11_lands_61 rfl 1 rfl ?_
  obtain ⟨M10, e_M10⟩ : ∃ M10 : mM, M10 = m_ui M r6 (Int32.toNatClampNeg xv5) (((1048576 * (((M).1 r6 (Int32.toNatClampNeg xv5)) / 1048576)) + ((M).1 a0 17))) := ⟨_, rfl⟩
  have h := h M10 e_M10
  rw [← e_M10]
  refine m_geti f_X11_209 rfl dX11_lands_62 q1 ?_
  refine m_iconst (v := 1) dX11_lands_65 (by decide) ?_
  refine m_isub dX11_lands_66 ?_
  refine m_puti f_X11_209 rfl (Or.inl rfl) dX11_lands_67 q1 ⟨rfl, rfl⟩ ?_
  refine m_goto (tgt := 0) dX11_lands_70 (by decide) ?_
  exact m_sub [1, 2] rfl h
set_option maxHeartbeats 4000000 in
set_option maxRecDepth 100000 in
theorem e11_lands {d : Nat} {Th : mT} {Q : mM → Prop} {a0 : Nat} {x1 : Int32} {M : mM} (h : H11_lands_0 (d + 1) Th Q a0 x1 M) : P11_lands (d + 1) Th a0 x1 M Q := by
  refine m_C.of (by decide +kernel) (Nat.le_of_ble_eq_true rfl) ?_
  show m_W (d + 1) 0 0 yX11_lands cX11_lands 3 none (m_qv Th Q) 0 [(0, .ref a0), (1, .int x1)] [] Th M 0 0
  exact h
set_option maxHeartbeats 4000000 in
set_option maxRecDepth 100000 in
theorem e11_jumps {d : Nat} {Th : mT} {Q : mM → Prop} {a0 : Nat} {x1 : Int32} {M : mM} (h : Th.2.2 a0 = some (.inl 11) ∧ (∃ r2 : Nat, M.2.2 a0 23 = some r2 ∧ (m_okw Th r2 .int (((M).1 a0 18)) ∧ (∀ M5 : mM, M5 = m_ui M r2 (Int32.toNatClampNeg (((M).1 a0 18))) (((1048576 * x1) + ((M).1 a0 17))) → P11_notes d Th a0 x1 0 (m_ui M5 a0 18 ((((M5).1 a0 18) + 1))) (fun M6 : mM => Q (m_ui M6 a0 13 ((((M6).1 a0 13) + 1)))))))) : P11_jumps (d + 1) Th a0 x1 M Q := by
  refine m_C.of (by decide +kernel) (Nat.le_of_ble_eq_true rfl) ?_
  show m_W (d + 1) 0 0 yX11_jumps cX11_jumps 2 none (m_qv Th Q) 0 [(0, .ref a0), (1, .int x1)] [] Th M 0 0
  refine m_aload_n dX11_jumps_0 rfl 0 rfl ?_
  obtain ⟨q1, h⟩ := h
  obtain ⟨r2, q3, h⟩ := h
  refine m_getr f_X11_35 rfl dX11_jumps_1 q1 q3 ?_
  refine m_aload_n dX11_jumps_4 rfl 0 rfl ?_
  refine m_geti f_X11_209 rfl dX11_jumps_5 q1 ?_
  refine m_ldc k_X11_205 dX11_jumps_8 ?_
  refine m_iload_n dX11_jumps_10 rfl 1 rfl ?_
  refine m_imul dX11_jumps_11 ?_
  refine m_aload_n dX11_jumps_12 rfl 0 rfl ?_
  refine m_geti f_X11_202 rfl dX11_jumps_13 q1 ?_
  refine m_iadd dX11_jumps_16 ?_
  obtain ⟨q4, h⟩ := h
  refine m_iast dX11_jumps_17 q4 ?_
  refine m_aload_n dX11_jumps_18 rfl 0 rfl ?_
  refine m_aload_n dX11_jumps_19 rfl 0 rfl ?_
  obtain ⟨M5, e_M5⟩ : ∃ M5 : mM, M5 = m_ui M r2 (Int32.toNatClampNeg (((M).1 a0 18))) (((1048576 * x1) + ((M).1 a0 17))) := ⟨_, rfl⟩
  have h := h M5 e_M5
  rw [← e_M5]
  refine m_geti f_X11_209 rfl dX11_jumps_20 q1 ?_
  refine m_iconst (v := 1) dX11_jumps_23 (by decide) ?_
  refine m_iadd dX11_jumps_24 ?_
  refine m_puti f_X11_209 rfl (Or.inl rfl) dX11_jumps_25 q1 ⟨rfl, rfl⟩ ?_
  refine m_aload_n dX11_jumps_28 rfl 0 rfl ?_
  refine m_iload_n dX11_jumps_29 rfl 1 rfl ?_
  refine m_iconst (v := 0) dX11_jumps_30 (by decide) ?_
  refine m_invV (ci := 11) (As := [.int x1, .int 0]) (d' := d) (mc' := 0) (ms' := 0) (rest := []) i_11_notes v_11_notes t_11_notes l_X11_215 ⟨_, _, rfl⟩ dX11_jumps_31 rfl rfl q1 (Nat.le_of_ble_eq_true rfl) (Nat.le_refl _) ⟨Nat.le_refl _, Nat.le_refl _⟩ (m_Cv h (fun M6 h => ?_))
  show m_W (d + 1) 0 0 yX11_jumps cX11_jumps 2 none (m_qv Th Q) 34 [(0, .ref a0), (1, .int x1)] [] Th M6 0 0
  refine m_aload_n dX11_jumps_34 rfl 0 rfl ?_
  refine m_aload_n dX11_jumps_35 rfl 0 rfl ?_
  refine m_geti f_X11_179 rfl dX11_jumps_36 q1 ?_
  refine m_iconst (v := 1) dX11_jumps_39 (by decide) ?_
  refine m_iadd dX11_jumps_40 ?_
  refine m_puti f_X11_179 rfl (Or.inl rfl) dX11_jumps_41 q1 ⟨rfl, rfl⟩ ?_
  exact m_return dX11_jumps_44 rfl ⟨rfl, rfl, h⟩
set_option maxHeartbeats 4000000 in
set_option maxRecDepth 100000 in
theorem h11_readsCompared_52 {d : Nat} {Th : mT} {Q : Int32 → mM → Prop} {a0 : Nat} {s0 : Int32} {M : mM} (h : if s0 = (-1) then (Th.2.2 a0 = some (.inl 11) ∧ (P11_wrong d Th a0 1 (((M).1 a0 13)) M (fun (v3 : Int32) (M2 : mM) => m_bool v3 ∧ Q v3 M2))) else (Th.2.2 a0 = some (.inl 11) ∧ (P11_readsSum d Th a0 (m_ui M a0 13 ((((M).1 a0 13) + 1))) (fun (v6 : Int32) (M5 : mM) => if v6 = 0 then (Q 0 M5) else (P11_notes d Th a0 s0 0 M5 (fun M7 : mM => P11_endsPiece d Th a0 M7 (fun M9 : mM => Q 1 M9))))))) : H11_readsCompared_52 (d + 1) Th Q a0 s0 M := by
  show m_W (d + 1) 0 0 yX11_readsCompared cX11_readsCompared 2 (some .boolean) (m_qi Th Q) 52 [(0, .ref a0)] [.int s0] Th M 0 0
  refine m_istore_n (lv' := [(1, .int s0), (0, .ref a0)]) dX11_readsCompared_52 rfl (by decide) rfl ?_
  refine m_iload_n dX11_readsCompared_53 rfl 0 rfl ?_
  refine m_iconst (v := (-1)) dX11_readsCompared_54 (by decide) ?_
  refine m_icmp_ne (tgt := 68) dX11_readsCompared_55 (by decide) (fun c1 => ?_) (fun c1 => ?_)
  · rw [if_neg c1] at h
    refine m_aload_n dX11_readsCompared_68 rfl 1 rfl ?_
    refine m_aload_n dX11_readsCompared_69 rfl 1 rfl ?_
    obtain ⟨q4, h⟩ := h
    refine m_geti f_X11_179 rfl dX11_readsCompared_70 q4 ?_
    refine m_iconst (v := 1) dX11_readsCompared_73 (by decide) ?_
    refine m_iadd dX11_readsCompared_74 ?_
    refine m_puti f_X11_179 rfl (Or.inl rfl) dX11_readsCompared_75 q4 ⟨rfl, rfl⟩ ?_
    refine m_aload_n dX11_readsCompared_78 rfl 1 rfl ?_
    refine m_invV (ci := 11) (As := []) (d' := d) (mc' := 0) (ms' := 0) (rest := []) i_11_readsSum v_11_readsSum t_11_readsSum l_X11_242 ⟨_, _, rfl⟩ dX11_readsCompared_79 rfl rfl q4 (Nat.le_of_ble_eq_true rfl) (Nat.le_refl _) ⟨Nat.le_refl _, Nat.le_refl _⟩ (m_Ci h (fun v6 M5 h => ?_))
    show m_W (d + 1) 0 0 yX11_readsCompared cX11_readsCompared 2 (some .boolean) (m_qi Th Q) 82 [(1, .int s0), (0, .ref a0)] [.int v6] Th M5 0 0
    refine m_if_ne (tgt := 87) dX11_readsCompared_82 (by decide) (fun c1 => ?_) (fun c1 => ?_)
    · rw [if_neg c1] at h
      refine m_aload_n dX11_readsCompared_87 rfl 1 rfl ?_
      refine m_iload_n dX11_readsCompared_88 rfl 0 rfl ?_
      refine m_iconst (v := 0) dX11_readsCompared_89 (by decide) ?_
      refine m_invV (ci := 11) (As := [.int s0, .int 0]) (d' := d) (mc' := 0) (ms' := 0) (rest := []) i_11_notes v_11_notes t_11_notes l_X11_215 ⟨_, _, rfl⟩ dX11_readsCompared_90 rfl rfl q4 (Nat.le_of_ble_eq_true rfl) (Nat.le_refl _) ⟨Nat.le_refl _, Nat.le_refl _⟩ (m_Cv h (fun M7 h => ?_))
      show m_W (d + 1) 0 0 yX11_readsCompared cX11_readsCompared 2 (some .boolean) (m_qi Th Q) 93 [(1, .int s0), (0, .ref a0)] [] Th M7 0 0
      refine m_aload_n dX11_readsCompared_93 rfl 1 rfl ?_
      refine m_invV (ci := 11) (As := []) (d' := d) (mc' := 0) (ms' := 0) (rest := []) i_11_endsPiece v_11_endsPiece t_11_endsPiece l_X11_245 ⟨_, _, rfl⟩ dX11_readsCompared_94 rfl rfl q4 (Nat.le_of_ble_eq_true rfl) (Nat.le_refl _) ⟨Nat.le_refl _, Nat.le_refl _⟩ (m_Cv h (fun M9 h => ?_))
      show m_W (d + 1) 0 0 yX11_readsCompared cX11_readsCompared 2 (some .boolean) (m_qi Th Q) 97 [(1, .int s0), (0, .ref a0)] [] Th M9 0 0
      refine m_iconst (v := 1) dX11_readsCompared_97 (by decide) ?_
      exact m_ireturn dX11_readsCompared_98 rfl (by decide) ⟨rfl, _, rfl, h⟩
    · rw [if_pos c1] at h
      refine m_iconst (v := 0) dX11_readsCompared_85 (by decide) ?_
      exact m_ireturn dX11_readsCompared_86 rfl (by decide) ⟨rfl, _, rfl, h⟩
  · rw [if_pos c1] at h
    refine m_aload_n dX11_readsCompared_58 rfl 1 rfl ?_
    refine m_iconst (v := 1) dX11_readsCompared_59 (by decide) ?_
    refine m_aload_n dX11_readsCompared_60 rfl 1 rfl ?_
    obtain ⟨q1, h⟩ := h
    refine m_geti f_X11_179 rfl dX11_readsCompared_61 q1 ?_
    refine m_invV (ci := 11) (As := [.int 1, .int (((M).1 a0 13))]) (d' := d) (mc' := 0) (ms' := 0) (rest := []) i_11_wrong v_11_wrong t_11_wrong l_X11_191 ⟨_, _, rfl⟩ dX11_readsCompared_64 rfl rfl q1 (Nat.le_of_ble_eq_true rfl) (Nat.le_refl _) ⟨Nat.le_refl _, Nat.le_refl _⟩ (m_Ci h (fun v3 M2 h => ?_))
    show m_W (d + 1) 0 0 yX11_readsCompared cX11_readsCompared 2 (some .boolean) (m_qi Th Q) 67 [(1, .int s0), (0, .ref a0)] [.int v3] Th M2 0 0
    exact m_ireturn dX11_readsCompared_67 rfl h.1 ⟨rfl, _, rfl, h.2⟩
set_option maxHeartbeats 4000000 in
set_option maxRecDepth 100000 in
theorem e11_readsCompared {d : Nat} {Th : mT} {Q : Int32 → mM → Prop} {a0 : Nat} {M : mM} (h : Th.2.2 a0 = some (.inl 11) ∧ (P11_readsSum d Th a0 M (fun (v2 : Int32) (M1 : mM) => if v2 = 0 then (Q 0 M1) else (P11_here d Th a0 M1 (fun (v5 : Int32) (M4 : mM) => if v5 = 60 then (H11_readsCompared_52 (d + 1) Th Q a0 7 M4) else (P11_here d Th a0 M4 (fun (v7 : Int32) (M6 : mM) => if v7 = 62 then (H11_readsCompared_52 (d + 1) Th Q a0 8 M6) else (P11_here d Th a0 M6 (fun (v9 : Int32) (M8 : mM) => if v9 = 61 then (H11_readsCompared_52 (d + 1) Th Q a0 9 M8) else (H11_readsCompared_52 (d + 1) Th Q a0 (-1) M8)))))))))) : P11_readsCompared (d + 1) Th a0 M Q := by
  refine m_C.of (by decide +kernel) (Nat.le_of_ble_eq_true rfl) ?_
  show m_W (d + 1) 0 0 yX11_readsCompared cX11_readsCompared 2 (some .boolean) (m_qi Th Q) 0 [(0, .ref a0)] [] Th M 0 0
  refine m_aload_n dX11_readsCompared_0 rfl 0 rfl ?_
  obtain ⟨q3, h⟩ := h
  refine m_invV (ci := 11) (As := []) (d' := d) (mc' := 0) (ms' := 0) (rest := []) i_11_readsSum v_11_readsSum t_11_readsSum l_X11_242 ⟨_, _, rfl⟩ dX11_readsCompared_1 rfl rfl q3 (Nat.le_of_ble_eq_true rfl) (Nat.le_refl _) ⟨Nat.le_refl _, Nat.le_refl _⟩ (m_Ci h (fun v2 M1 h => ?_))
  show m_W (d + 1) 0 0 yX11_readsCompared cX11_readsCompared 2 (some .boolean) (m_qi Th Q) 4 [(0, .ref a0)] [.int v2] Th M1 0 0
  refine m_if_ne (tgt := 9) dX11_readsCompared_4 (by decide) (fun c1 => ?_) (fun c1 => ?_)
  · rw [if_neg c1] at h
    refine m_aload_n dX11_readsCompared_9 rfl 0 rfl ?_
    refine m_invV (ci := 11) (As := []) (d' := d) (mc' := 0) (ms' := 0) (rest := []) i_11_here v_11_here t_11_here l_X11_185 ⟨_, _, rfl⟩ dX11_readsCompared_10 rfl rfl q3 (Nat.le_of_ble_eq_true rfl) (Nat.le_refl _) ⟨Nat.le_refl _, Nat.le_refl _⟩ (m_Ci h (fun v5 M4 h => ?_))
    show m_W (d + 1) 0 0 yX11_readsCompared cX11_readsCompared 2 (some .boolean) (m_qi Th Q) 13 [(0, .ref a0)] [.int v5] Th M4 0 0
    refine m_bipush (v := 60) dX11_readsCompared_13 (by decide) ?_
    refine m_icmp_ne (tgt := 23) dX11_readsCompared_15 (by decide) (fun c1 => ?_) (fun c1 => ?_)
    · rw [if_neg c1] at h
      refine m_aload_n dX11_readsCompared_23 rfl 0 rfl ?_
      refine m_invV (ci := 11) (As := []) (d' := d) (mc' := 0) (ms' := 0) (rest := []) i_11_here v_11_here t_11_here l_X11_185 ⟨_, _, rfl⟩ dX11_readsCompared_24 rfl rfl q3 (Nat.le_of_ble_eq_true rfl) (Nat.le_refl _) ⟨Nat.le_refl _, Nat.le_refl _⟩ (m_Ci h (fun v7 M6 h => ?_))
      show m_W (d + 1) 0 0 yX11_readsCompared cX11_readsCompared 2 (some .boolean) (m_qi Th Q) 27 [(0, .ref a0)] [.int v7] Th M6 0 0
      refine m_bipush (v := 62) dX11_readsCompared_27 (by decide) ?_
      refine m_icmp_ne (tgt := 37) dX11_readsCompared_29 (by decide) (fun c1 => ?_) (fun c1 => ?_)
      · rw [if_neg c1] at h
        refine m_aload_n dX11_readsCompared_37 rfl 0 rfl ?_
        refine m_invV (ci := 11) (As := []) (d' := d) (mc' := 0) (ms' := 0) (rest := []) i_11_here v_11_here t_11_here l_X11_185 ⟨_, _, rfl⟩ dX11_readsCompared_38 rfl rfl q3 (Nat.le_of_ble_eq_true rfl) (Nat.le_refl _) ⟨Nat.le_refl _, Nat.le_refl _⟩ (m_Ci h (fun v9 M8 h => ?_))
        show m_W (d + 1) 0 0 yX11_readsCompared cX11_readsCompared 2 (some .boolean) (m_qi Th Q) 41 [(0, .ref a0)] [.int v9] Th M8 0 0
        refine m_bipush (v := 61) dX11_readsCompared_41 (by decide) ?_
        refine m_icmp_ne (tgt := 51) dX11_readsCompared_43 (by decide) (fun c1 => ?_) (fun c1 => ?_)
        · rw [if_neg c1] at h
          refine m_iconst (v := (-1)) dX11_readsCompared_51 (by decide) ?_
          exact h
        · rw [if_pos c1] at h
          refine m_bipush (v := 9) dX11_readsCompared_46 (by decide) ?_
          refine m_goto (tgt := 52) dX11_readsCompared_48 (by decide) ?_
          exact h
      · rw [if_pos c1] at h
        refine m_bipush (v := 8) dX11_readsCompared_32 (by decide) ?_
        refine m_goto (tgt := 52) dX11_readsCompared_34 (by decide) ?_
        exact h
    · rw [if_pos c1] at h
      refine m_bipush (v := 7) dX11_readsCompared_18 (by decide) ?_
      refine m_goto (tgt := 52) dX11_readsCompared_20 (by decide) ?_
      exact h
  · rw [if_pos c1] at h
    refine m_iconst (v := 0) dX11_readsCompared_7 (by decide) ?_
    exact m_ireturn dX11_readsCompared_8 rfl (by decide) ⟨rfl, _, rfl, h⟩
set_option maxHeartbeats 4000000 in
set_option maxRecDepth 100000 in
theorem h11_readsCondition_40 {d : Nat} {Th : mT} {Q : Int32 → mM → Prop} {a0 : Nat} {M : mM} (h : Th.2.2 a0 = some (.inl 11) ∧ (P11_here d Th a0 M (fun (v2 : Int32) (M1 : mM) => if v2 = 33 then (H11_readsCondition_58 (d + 1) Th Q a0 M1) else (P11_here d Th a0 M1 (fun (v5 : Int32) (M4 : mM) => if v5 = 40 then (H11_readsCondition_58 (d + 1) Th Q a0 M4) else (P11_readsCompared d Th a0 M4 (fun (v7 : Int32) (M6 : mM) => if v7 = 0 then (Q 0 M6) else (H11_readsCondition_92 (d + 1) Th Q a0 M6)))))))) : H11_readsCondition_40 (d + 1) Th Q a0 M := by
  show m_W (d + 1) 0 0 yX11_readsCondition cX11_readsCondition 1 (some .boolean) (m_qi Th Q) 40 [(0, .ref a0)] [] Th M 0 0
  refine m_aload_n dX11_readsCondition_40 rfl 0 rfl ?_
  obtain ⟨q3, h⟩ := h
  refine m_invV (ci := 11) (As := []) (d' := d) (mc' := 0) (ms' := 0) (rest := []) i_11_here v_11_here t_11_here l_X11_185 ⟨_, _, rfl⟩ dX11_readsCondition_41 rfl rfl q3 (Nat.le_of_ble_eq_true rfl) (Nat.le_refl _) ⟨Nat.le_refl _, Nat.le_refl _⟩ (m_Ci h (fun v2 M1 h => ?_))
  show m_W (d + 1) 0 0 yX11_readsCondition cX11_readsCondition 1 (some .boolean) (m_qi Th Q) 44 [(0, .ref a0)] [.int v2] Th M1 0 0
  refine m_bipush (v := 33) dX11_readsCondition_44 (by decide) ?_
  refine m_icmp_eq (tgt := 58) dX11_readsCondition_46 (by decide) (fun c1 => ?_) (fun c1 => ?_)
  · rw [if_pos c1] at h
    exact h
  · rw [if_neg c1] at h
    refine m_aload_n dX11_readsCondition_49 rfl 0 rfl ?_
    refine m_invV (ci := 11) (As := []) (d' := d) (mc' := 0) (ms' := 0) (rest := []) i_11_here v_11_here t_11_here l_X11_185 ⟨_, _, rfl⟩ dX11_readsCondition_50 rfl rfl q3 (Nat.le_of_ble_eq_true rfl) (Nat.le_refl _) ⟨Nat.le_refl _, Nat.le_refl _⟩ (m_Ci h (fun v5 M4 h => ?_))
    show m_W (d + 1) 0 0 yX11_readsCondition cX11_readsCondition 1 (some .boolean) (m_qi Th Q) 53 [(0, .ref a0)] [.int v5] Th M4 0 0
    refine m_bipush (v := 40) dX11_readsCondition_53 (by decide) ?_
    refine m_icmp_ne (tgt := 83) dX11_readsCondition_55 (by decide) (fun c1 => ?_) (fun c1 => ?_)
    · rw [if_neg c1] at h
      refine m_aload_n dX11_readsCondition_83 rfl 0 rfl ?_
      refine m_invV (ci := 11) (As := []) (d' := d) (mc' := 0) (ms' := 0) (rest := []) i_11_readsCompared v_11_readsCompared t_11_readsCompared l_X11_248 ⟨_, _, rfl⟩ dX11_readsCondition_84 rfl rfl q3 (Nat.le_of_ble_eq_true rfl) (Nat.le_refl _) ⟨Nat.le_refl _, Nat.le_refl _⟩ (m_Ci h (fun v7 M6 h => ?_))
      show m_W (d + 1) 0 0 yX11_readsCondition cX11_readsCondition 1 (some .boolean) (m_qi Th Q) 87 [(0, .ref a0)] [.int v7] Th M6 0 0
      refine m_if_ne (tgt := 92) dX11_readsCondition_87 (by decide) (fun c1 => ?_) (fun c1 => ?_)
      · rw [if_neg c1] at h
        exact h
      · rw [if_pos c1] at h
        refine m_iconst (v := 0) dX11_readsCondition_90 (by decide) ?_
        exact m_ireturn dX11_readsCondition_91 rfl (by decide) ⟨rfl, _, rfl, h⟩
    · rw [if_pos c1] at h
      exact h
set_option maxHeartbeats 4000000 in
set_option maxRecDepth 100000 in
theorem h11_readsCondition_58 {d : Nat} {Th : mT} {Q : Int32 → mM → Prop} {a0 : Nat} {M : mM} (h : Th.2.2 a0 = some (.inl 11) ∧ (P11_here d Th a0 M (fun (v2 : Int32) (M1 : mM) => P11_opens d Th a0 ((if v2 = 33 then 10 else 13)) M1 (fun (v5 : Int32) (M4 : mM) => if v5 = 0 then (Q 0 M4) else (H11_readsCondition_40 (d + 1) Th Q a0 M4))))) : H11_readsCondition_58 (d + 1) Th Q a0 M := by
  show m_W (d + 1) 0 0 yX11_readsCondition cX11_readsCondition 1 (some .boolean) (m_qi Th Q) 58 [(0, .ref a0)] [] Th M 0 0
  refine m_aload_n dX11_readsCondition_58 rfl 0 rfl ?_
  refine m_aload_n dX11_readsCondition_59 rfl 0 rfl ?_
  obtain ⟨q3, h⟩ := h
  refine m_invV (ci := 11) (As := []) (d' := d) (mc' := 0) (ms' := 0) (rest := [.ref a0]) i_11_here v_11_here t_11_here l_X11_185 ⟨_, _, rfl⟩ dX11_readsCondition_60 rfl rfl q3 (Nat.le_of_ble_eq_true rfl) (Nat.le_refl _) ⟨Nat.le_refl _, Nat.le_refl _⟩ (m_Ci h (fun v2 M1 h => ?_))
  show m_W (d + 1) 0 0 yX11_readsCondition cX11_readsCondition 1 (some .boolean) (m_qi Th Q) 63 [(0, .ref a0)] [.int v2, .ref a0] Th M1 0 0
  refine m_bipush (v := 33) dX11_readsCondition_63 (by decide) ?_
  have hJ : m_W (d + 1) 0 0 yX11_readsCondition cX11_readsCondition 1 (some .boolean) (m_qi Th Q) 75 [(0, .ref a0)] [.int ((if v2 = 33 then 10 else 13)), .ref a0] Th M1 0 0 := by
    refine m_invV (ci := 11) (As := [.int ((if v2 = 33 then 10 else 13))]) (d' := d) (mc' := 0) (ms' := 0) (rest := []) i_11_opens v_11_opens t_11_opens l_X11_219 ⟨_, _, rfl⟩ dX11_readsCondition_75 rfl rfl q3 (Nat.le_of_ble_eq_true rfl) (Nat.le_refl _) ⟨Nat.le_refl _, Nat.le_refl _⟩ (m_Ci h (fun v5 M4 h => ?_))
    show m_W (d + 1) 0 0 yX11_readsCondition cX11_readsCondition 1 (some .boolean) (m_qi Th Q) 78 [(0, .ref a0)] [.int v5] Th M4 0 0
    refine m_if_ne (tgt := 40) dX11_readsCondition_78 (by decide) (fun c1 => ?_) (fun c1 => ?_)
    · rw [if_neg c1] at h
      exact h
    · rw [if_pos c1] at h
      refine m_iconst (v := 0) dX11_readsCondition_81 (by decide) ?_
      exact m_ireturn dX11_readsCondition_82 rfl (by decide) ⟨rfl, _, rfl, h⟩
  refine m_icmp_ne (tgt := 73) dX11_readsCondition_65 (by decide) (fun c1 => ?_) (fun c1 => ?_)
  · simp only [if_neg c1] at hJ
    refine m_bipush (v := 13) dX11_readsCondition_73 (by decide) ?_
    exact hJ
  · simp only [if_pos c1] at hJ
    refine m_bipush (v := 10) dX11_readsCondition_68 (by decide) ?_
    refine m_goto (tgt := 75) dX11_readsCondition_70 (by decide) ?_
    exact hJ
set_option maxHeartbeats 4000000 in
set_option maxRecDepth 100000 in
theorem h11_readsCondition_92 {d : Nat} {Th : mT} {Q : Int32 → mM → Prop} {a0 : Nat} {M : mM} (h : Th.2.2 a0 = some (.inl 11) ∧ (P11_here d Th a0 M (fun (v2 : Int32) (M1 : mM) => if v2 = 41 then (P11_lands d Th a0 1 M1 (fun M4 : mM => ∀ M6 : mM, M6 = m_ui M4 a0 18 ((((M4).1 a0 18) - 1)) → ∀ M7 : mM, M7 = m_ui M6 a0 16 ((((M6).1 a0 16) - 1)) → ∀ M8 : mM, M8 = m_ui M7 a0 13 ((((M7).1 a0 13) + 1)) → if ((M8).1 a0 18) = 0 then (Q 1 M8) else (P11_endsPiece d Th a0 M8 (fun M9 : mM => H11_readsCondition_92 (d + 1) Th Q a0 M9)))) else (P11_here d Th a0 M1 (fun (v12 : Int32) (M11 : mM) => if v12 = 38 then (H11_readsCondition_180 (d + 1) Th Q a0 M11) else (P11_here d Th a0 M11 (fun (v14 : Int32) (M13 : mM) => if v14 = 124 then (H11_readsCondition_180 (d + 1) Th Q a0 M13) else (P11_wrong d Th a0 1 (((M13).1 a0 13)) M13 (fun (v16 : Int32) (M15 : mM) => m_bool v16 ∧ Q v16 M15))))))))) : H11_readsCondition_92 (d + 1) Th Q a0 M := by
  show m_W (d + 1) 0 0 yX11_readsCondition cX11_readsCondition 1 (some .boolean) (m_qi Th Q) 92 [(0, .ref a0)] [] Th M 0 0
  refine m_aload_n dX11_readsCondition_92 rfl 0 rfl ?_
  obtain ⟨q3, h⟩ := h
  refine m_invV (ci := 11) (As := []) (d' := d) (mc' := 0) (ms' := 0) (rest := []) i_11_here v_11_here t_11_here l_X11_185 ⟨_, _, rfl⟩ dX11_readsCondition_93 rfl rfl q3 (Nat.le_of_ble_eq_true rfl) (Nat.le_refl _) ⟨Nat.le_refl _, Nat.le_refl _⟩ (m_Ci h (fun v2 M1 h => ?_))
  show m_W (d + 1) 0 0 yX11_readsCondition cX11_readsCondition 1 (some .boolean) (m_qi Th Q) 96 [(0, .ref a0)] [.int v2] Th M1 0 0
  refine m_bipush (v := 41) dX11_readsCondition_96 (by decide) ?_
  refine m_icmp_ne (tgt := 152) dX11_readsCondition_98 (by decide) (fun c1 => ?_) (fun c1 => ?_)
  · rw [if_neg c1] at h
    refine m_aload_n dX11_readsCondition_152 rfl 0 rfl ?_
    refine m_invV (ci := 11) (As := []) (d' := d) (mc' := 0) (ms' := 0) (rest := []) i_11_here v_11_here t_11_here l_X11_185 ⟨_, _, rfl⟩ dX11_readsCondition_153 rfl rfl q3 (Nat.le_of_ble_eq_true rfl) (Nat.le_refl _) ⟨Nat.le_refl _, Nat.le_refl _⟩ (m_Ci h (fun v12 M11 h => ?_))
    show m_W (d + 1) 0 0 yX11_readsCondition cX11_readsCondition 1 (some .boolean) (m_qi Th Q) 156 [(0, .ref a0)] [.int v12] Th M11 0 0
    refine m_bipush (v := 38) dX11_readsCondition_156 (by decide) ?_
    refine m_icmp_eq (tgt := 180) dX11_readsCondition_158 (by decide) (fun c1 => ?_) (fun c1 => ?_)
    · rw [if_pos c1] at h
      exact h
    · rw [if_neg c1] at h
      refine m_aload_n dX11_readsCondition_161 rfl 0 rfl ?_
      refine m_invV (ci := 11) (As := []) (d' := d) (mc' := 0) (ms' := 0) (rest := []) i_11_here v_11_here t_11_here l_X11_185 ⟨_, _, rfl⟩ dX11_readsCondition_162 rfl rfl q3 (Nat.le_of_ble_eq_true rfl) (Nat.le_refl _) ⟨Nat.le_refl _, Nat.le_refl _⟩ (m_Ci h (fun v14 M13 h => ?_))
      show m_W (d + 1) 0 0 yX11_readsCondition cX11_readsCondition 1 (some .boolean) (m_qi Th Q) 165 [(0, .ref a0)] [.int v14] Th M13 0 0
      refine m_bipush (v := 124) dX11_readsCondition_165 (by decide) ?_
      refine m_icmp_eq (tgt := 180) dX11_readsCondition_167 (by decide) (fun c1 => ?_) (fun c1 => ?_)
      · rw [if_pos c1] at h
        exact h
      · rw [if_neg c1] at h
        refine m_aload_n dX11_readsCondition_170 rfl 0 rfl ?_
        refine m_iconst (v := 1) dX11_readsCondition_171 (by decide) ?_
        refine m_aload_n dX11_readsCondition_172 rfl 0 rfl ?_
        refine m_geti f_X11_179 rfl dX11_readsCondition_173 q3 ?_
        refine m_invV (ci := 11) (As := [.int 1, .int (((M13).1 a0 13))]) (d' := d) (mc' := 0) (ms' := 0) (rest := []) i_11_wrong v_11_wrong t_11_wrong l_X11_191 ⟨_, _, rfl⟩ dX11_readsCondition_176 rfl rfl q3 (Nat.le_of_ble_eq_true rfl) (Nat.le_refl _) ⟨Nat.le_refl _, Nat.le_refl _⟩ (m_Ci h (fun v16 M15 h => ?_))
        show m_W (d + 1) 0 0 yX11_readsCondition cX11_readsCondition 1 (some .boolean) (m_qi Th Q) 179 [(0, .ref a0)] [.int v16] Th M15 0 0
        exact m_ireturn dX11_readsCondition_179 rfl h.1 ⟨rfl, _, rfl, h.2⟩
  · rw [if_pos c1] at h
    refine m_aload_n dX11_readsCondition_101 rfl 0 rfl ?_
    refine m_iconst (v := 1) dX11_readsCondition_102 (by decide) ?_
    refine m_invV (ci := 11) (As := [.int 1]) (d' := d) (mc' := 0) (ms' := 0) (rest := []) i_11_lands v_11_lands t_11_lands l_X11_251 ⟨_, _, rfl⟩ dX11_readsCondition_103 rfl rfl q3 (Nat.le_of_ble_eq_true rfl) (Nat.le_refl _) ⟨Nat.le_refl _, Nat.le_refl _⟩ (m_Cv h (fun M4 h => ?_))
    show m_W (d + 1) 0 0 yX11_readsCondition cX11_readsCondition 1 (some .boolean) (m_qi Th Q) 106 [(0, .ref a0)] [] Th M4 0 0
    refine m_aload_n dX11_readsCondition_106 rfl 0 rfl ?_
    refine m_aload_n dX11_readsCondition_107 rfl 0 rfl ?_
    refine m_geti f_X11_209 rfl dX11_readsCondition_108 q3 ?_
    refine m_iconst (v := 1) dX11_readsCondition_111 (by decide) ?_
    refine m_isub dX11_readsCondition_112 ?_
    refine m_puti f_X11_209 rfl (Or.inl rfl) dX11_readsCondition_113 q3 ⟨rfl, rfl⟩ ?_
    refine m_aload_n dX11_readsCondition_116 rfl 0 rfl ?_
    refine m_aload_n dX11_readsCondition_117 rfl 0 rfl ?_
    obtain ⟨M6, e_M6⟩ : ∃ M6 : mM, M6 = m_ui M4 a0 18 ((((M4).1 a0 18) - 1)) := ⟨_, rfl⟩
    have h := h M6 e_M6
    rw [← e_M6]
    refine m_geti f_X11_206 rfl dX11_readsCondition_118 q3 ?_
    refine m_iconst (v := 1) dX11_readsCondition_121 (by decide) ?_
    refine m_isub dX11_readsCondition_122 ?_
    refine m_puti f_X11_206 rfl (Or.inl rfl) dX11_readsCondition_123 q3 ⟨rfl, rfl⟩ ?_
    refine m_aload_n dX11_readsCondition_126 rfl 0 rfl ?_
    refine m_aload_n dX11_readsCondition_127 rfl 0 rfl ?_
    obtain ⟨M7, e_M7⟩ : ∃ M7 : mM, M7 = m_ui M6 a0 16 ((((M6).1 a0 16) - 1)) := ⟨_, rfl⟩
    have h := h M7 e_M7
    rw [← e_M7]
    refine m_geti f_X11_179 rfl dX11_readsCondition_128 q3 ?_
    refine m_iconst (v := 1) dX11_readsCondition_131 (by decide) ?_
    refine m_iadd dX11_readsCondition_132 ?_
    refine m_puti f_X11_179 rfl (Or.inl rfl) dX11_readsCondition_133 q3 ⟨rfl, rfl⟩ ?_
    refine m_aload_n dX11_readsCondition_136 rfl 0 rfl ?_
    obtain ⟨M8, e_M8⟩ : ∃ M8 : mM, M8 = m_ui M7 a0 13 ((((M7).1 a0 13) + 1)) := ⟨_, rfl⟩
    have h := h M8 e_M8
    rw [← e_M8]
    refine m_geti f_X11_209 rfl dX11_readsCondition_137 q3 ?_
    refine m_if_ne (tgt := 145) dX11_readsCondition_140 (by decide) (fun c1 => ?_) (fun c1 => ?_)
    · rw [if_neg c1] at h
      refine m_aload_n dX11_readsCondition_145 rfl 0 rfl ?_
      refine m_invV (ci := 11) (As := []) (d' := d) (mc' := 0) (ms' := 0) (rest := []) i_11_endsPiece v_11_endsPiece t_11_endsPiece l_X11_245 ⟨_, _, rfl⟩ dX11_readsCondition_146 rfl rfl q3 (Nat.le_of_ble_eq_true rfl) (Nat.le_refl _) ⟨Nat.le_refl _, Nat.le_refl _⟩ (m_Cv h (fun M9 h => ?_))
      show m_W (d + 1) 0 0 yX11_readsCondition cX11_readsCondition 1 (some .boolean) (m_qi Th Q) 149 [(0, .ref a0)] [] Th M9 0 0
      refine m_goto (tgt := 92) dX11_readsCondition_149 (by decide) ?_
      exact h
    · rw [if_pos c1] at h
      refine m_iconst (v := 1) dX11_readsCondition_143 (by decide) ?_
      exact m_ireturn dX11_readsCondition_144 rfl (by decide) ⟨rfl, _, rfl, h⟩
set_option maxHeartbeats 4000000 in
set_option maxRecDepth 100000 in
theorem h11_readsCondition_180 {d : Nat} {Th : mT} {Q : Int32 → mM → Prop} {a0 : Nat} {M : mM} (h : Th.2.2 a0 = some (.inl 11) ∧ (P11_here d Th a0 M (fun (v2 : Int32) (M1 : mM) => P11_lands d Th a0 ((if v2 = 124 then 1 else 0)) M1 (fun M4 : mM => P11_here d Th a0 M4 (fun (v7 : Int32) (M6 : mM) => P11_jumps d Th a0 ((if v7 = 38 then 11 else 12)) M6 (fun M8 : mM => H11_readsCondition_40 (d + 1) Th Q a0 M8)))))) : H11_readsCondition_180 (d + 1) Th Q a0 M := by
  show m_W (d + 1) 0 0 yX11_readsCondition cX11_readsCondition 1 (some .boolean) (m_qi Th Q) 180 [(0, .ref a0)] [] Th M 0 0
  refine m_aload_n dX11_readsCondition_180 rfl 0 rfl ?_
  refine m_aload_n dX11_readsCondition_181 rfl 0 rfl ?_
  obtain ⟨q3, h⟩ := h
  refine m_invV (ci := 11) (As := []) (d' := d) (mc' := 0) (ms' := 0) (rest := [.ref a0]) i_11_here v_11_here t_11_here l_X11_185 ⟨_, _, rfl⟩ dX11_readsCondition_182 rfl rfl q3 (Nat.le_of_ble_eq_true rfl) (Nat.le_refl _) ⟨Nat.le_refl _, Nat.le_refl _⟩ (m_Ci h (fun v2 M1 h => ?_))
  show m_W (d + 1) 0 0 yX11_readsCondition cX11_readsCondition 1 (some .boolean) (m_qi Th Q) 185 [(0, .ref a0)] [.int v2, .ref a0] Th M1 0 0
  refine m_bipush (v := 124) dX11_readsCondition_185 (by decide) ?_
  have hJ : m_W (d + 1) 0 0 yX11_readsCondition cX11_readsCondition 1 (some .boolean) (m_qi Th Q) 195 [(0, .ref a0)] [.int ((if v2 = 124 then 1 else 0)), .ref a0] Th M1 0 0 := by
    refine m_invV (ci := 11) (As := [.int ((if v2 = 124 then 1 else 0))]) (d' := d) (mc' := 0) (ms' := 0) (rest := []) i_11_lands v_11_lands t_11_lands l_X11_251 ⟨_, _, rfl⟩ dX11_readsCondition_195 rfl rfl q3 (Nat.le_of_ble_eq_true rfl) (Nat.le_refl _) ⟨Nat.le_refl _, Nat.le_refl _⟩ (m_Cv h (fun M4 h => ?_))
    show m_W (d + 1) 0 0 yX11_readsCondition cX11_readsCondition 1 (some .boolean) (m_qi Th Q) 198 [(0, .ref a0)] [] Th M4 0 0
    refine m_aload_n dX11_readsCondition_198 rfl 0 rfl ?_
    refine m_aload_n dX11_readsCondition_199 rfl 0 rfl ?_
    refine m_invV (ci := 11) (As := []) (d' := d) (mc' := 0) (ms' := 0) (rest := [.ref a0]) i_11_here v_11_here t_11_here l_X11_185 ⟨_, _, rfl⟩ dX11_readsCondition_200 rfl rfl q3 (Nat.le_of_ble_eq_true rfl) (Nat.le_refl _) ⟨Nat.le_refl _, Nat.le_refl _⟩ (m_Ci h (fun v7 M6 h => ?_))
    show m_W (d + 1) 0 0 yX11_readsCondition cX11_readsCondition 1 (some .boolean) (m_qi Th Q) 203 [(0, .ref a0)] [.int v7, .ref a0] Th M6 0 0
    refine m_bipush (v := 38) dX11_readsCondition_203 (by decide) ?_
    have hJ : m_W (d + 1) 0 0 yX11_readsCondition cX11_readsCondition 1 (some .boolean) (m_qi Th Q) 215 [(0, .ref a0)] [.int ((if v7 = 38 then 11 else 12)), .ref a0] Th M6 0 0 := by
      refine m_invV (ci := 11) (As := [.int ((if v7 = 38 then 11 else 12))]) (d' := d) (mc' := 0) (ms' := 0) (rest := []) i_11_jumps v_11_jumps t_11_jumps l_X11_254 ⟨_, _, rfl⟩ dX11_readsCondition_215 rfl rfl q3 (Nat.le_of_ble_eq_true rfl) (Nat.le_refl _) ⟨Nat.le_refl _, Nat.le_refl _⟩ (m_Cv h (fun M8 h => ?_))
      show m_W (d + 1) 0 0 yX11_readsCondition cX11_readsCondition 1 (some .boolean) (m_qi Th Q) 218 [(0, .ref a0)] [] Th M8 0 0
      refine m_goto (tgt := 40) dX11_readsCondition_218 (by decide) ?_
      exact h
    refine m_icmp_ne (tgt := 213) dX11_readsCondition_205 (by decide) (fun c1 => ?_) (fun c1 => ?_)
    · simp only [if_neg c1] at hJ
      refine m_bipush (v := 12) dX11_readsCondition_213 (by decide) ?_
      exact hJ
    · simp only [if_pos c1] at hJ
      refine m_bipush (v := 11) dX11_readsCondition_208 (by decide) ?_
      refine m_goto (tgt := 215) dX11_readsCondition_210 (by decide) ?_
      exact hJ
  refine m_icmp_ne (tgt := 194) dX11_readsCondition_187 (by decide) (fun c1 => ?_) (fun c1 => ?_)
  · simp only [if_neg c1] at hJ
    refine m_iconst (v := 0) dX11_readsCondition_194 (by decide) ?_
    exact hJ
  · simp only [if_pos c1] at hJ
    refine m_iconst (v := 1) dX11_readsCondition_190 (by decide) ?_
    refine m_goto (tgt := 195) dX11_readsCondition_191 (by decide) ?_
    exact hJ
set_option maxHeartbeats 4000000 in
set_option maxRecDepth 100000 in
theorem e11_readsCondition {d : Nat} {Th : mT} {Q : Int32 → mM → Prop} {a0 : Nat} {M : mM} (h : Th.2.2 a0 = some (.inl 11) ∧ (P11_here d Th a0 M (fun (v2 : Int32) (M1 : mM) => if v2 = 40 then (∀ M4 : mM, M4 = m_ui M1 a0 16 0 → P11_opens d Th a0 13 (m_ui M4 a0 18 0) (fun (v6 : Int32) (M5 : mM) => if v6 = 0 then (Q 0 M5) else (H11_readsCondition_40 (d + 1) Th Q a0 M5))) else (P11_wrong d Th a0 1 (((M1).1 a0 13)) M1 (fun (v8 : Int32) (M7 : mM) => m_bool v8 ∧ Q v8 M7))))) : P11_readsCondition (d + 1) Th a0 M Q := by
  refine m_C.of (by decide +kernel) (Nat.le_of_ble_eq_true rfl) ?_
  show m_W (d + 1) 0 0 yX11_readsCondition cX11_readsCondition 1 (some .boolean) (m_qi Th Q) 0 [(0, .ref a0)] [] Th M 0 0
  refine m_aload_n dX11_readsCondition_0 rfl 0 rfl ?_
  obtain ⟨q3, h⟩ := h
  refine m_invV (ci := 11) (As := []) (d' := d) (mc' := 0) (ms' := 0) (rest := []) i_11_here v_11_here t_11_here l_X11_185 ⟨_, _, rfl⟩ dX11_readsCondition_1 rfl rfl q3 (Nat.le_of_ble_eq_true rfl) (Nat.le_refl _) ⟨Nat.le_refl _, Nat.le_refl _⟩ (m_Ci h (fun v2 M1 h => ?_))
  show m_W (d + 1) 0 0 yX11_readsCondition cX11_readsCondition 1 (some .boolean) (m_qi Th Q) 4 [(0, .ref a0)] [.int v2] Th M1 0 0
  refine m_bipush (v := 40) dX11_readsCondition_4 (by decide) ?_
  refine m_icmp_eq (tgt := 19) dX11_readsCondition_6 (by decide) (fun c1 => ?_) (fun c1 => ?_)
  · rw [if_pos c1] at h
    refine m_aload_n dX11_readsCondition_19 rfl 0 rfl ?_
    refine m_iconst (v := 0) dX11_readsCondition_20 (by decide) ?_
    refine m_puti f_X11_206 rfl (Or.inl rfl) dX11_readsCondition_21 q3 ⟨rfl, rfl⟩ ?_
    refine m_aload_n dX11_readsCondition_24 rfl 0 rfl ?_
    refine m_iconst (v := 0) dX11_readsCondition_25 (by decide) ?_
    obtain ⟨M4, e_M4⟩ : ∃ M4 : mM, M4 = m_ui M1 a0 16 0 := ⟨_, rfl⟩
    have h := h M4 e_M4
    rw [← e_M4]
    refine m_puti f_X11_209 rfl (Or.inl rfl) dX11_readsCondition_26 q3 ⟨rfl, rfl⟩ ?_
    refine m_aload_n dX11_readsCondition_29 rfl 0 rfl ?_
    refine m_bipush (v := 13) dX11_readsCondition_30 (by decide) ?_
    refine m_invV (ci := 11) (As := [.int 13]) (d' := d) (mc' := 0) (ms' := 0) (rest := []) i_11_opens v_11_opens t_11_opens l_X11_219 ⟨_, _, rfl⟩ dX11_readsCondition_32 rfl rfl q3 (Nat.le_of_ble_eq_true rfl) (Nat.le_refl _) ⟨Nat.le_refl _, Nat.le_refl _⟩ (m_Ci h (fun v6 M5 h => ?_))
    show m_W (d + 1) 0 0 yX11_readsCondition cX11_readsCondition 1 (some .boolean) (m_qi Th Q) 35 [(0, .ref a0)] [.int v6] Th M5 0 0
    refine m_if_ne (tgt := 40) dX11_readsCondition_35 (by decide) (fun c1 => ?_) (fun c1 => ?_)
    · rw [if_neg c1] at h
      exact h
    · rw [if_pos c1] at h
      refine m_iconst (v := 0) dX11_readsCondition_38 (by decide) ?_
      exact m_ireturn dX11_readsCondition_39 rfl (by decide) ⟨rfl, _, rfl, h⟩
  · rw [if_neg c1] at h
    refine m_aload_n dX11_readsCondition_9 rfl 0 rfl ?_
    refine m_iconst (v := 1) dX11_readsCondition_10 (by decide) ?_
    refine m_aload_n dX11_readsCondition_11 rfl 0 rfl ?_
    refine m_geti f_X11_179 rfl dX11_readsCondition_12 q3 ?_
    refine m_invV (ci := 11) (As := [.int 1, .int (((M1).1 a0 13))]) (d' := d) (mc' := 0) (ms' := 0) (rest := []) i_11_wrong v_11_wrong t_11_wrong l_X11_191 ⟨_, _, rfl⟩ dX11_readsCondition_15 rfl rfl q3 (Nat.le_of_ble_eq_true rfl) (Nat.le_refl _) ⟨Nat.le_refl _, Nat.le_refl _⟩ (m_Ci h (fun v8 M7 h => ?_))
    show m_W (d + 1) 0 0 yX11_readsCondition cX11_readsCondition 1 (some .boolean) (m_qi Th Q) 18 [(0, .ref a0)] [.int v8] Th M7 0 0
    exact m_ireturn dX11_readsCondition_18 rfl h.1 ⟨rfl, _, rfl, h.2⟩
set_option maxHeartbeats 4000000 in
set_option maxRecDepth 100000 in
theorem h11_readsClause_27 {d : Nat} {Th : mT} {Q : Int32 → mM → Prop} {a0 : Nat} {x1 : Int32} {M : mM} (h : Th.2.2 a0 = some (.inl 11) ∧ (if ((M).1 a0 19) = 14 then (P11_wrong d Th a0 4 (((M).1 a0 13)) M (fun (v3 : Int32) (M2 : mM) => m_bool v3 ∧ Q v3 M2)) else (∃ r4 : Nat, M.2.2 a0 24 = some r4 ∧ (m_okw Th r4 .int (((M).1 a0 19)) ∧ (∀ M7 : mM, M7 = m_ui M r4 (Int32.toNatClampNeg (((M).1 a0 19))) x1 → ∃ r8 : Nat, M.2.2 a0 25 = some r8 ∧ (∀ M10 : mM, M10 = m_ui M7 a0 13 ((((M7).1 a0 13) + 1)) → m_okw Th r8 .int (((M10).1 a0 19)) ∧ (∀ M12 : mM, M12 = m_ui M10 r8 (Int32.toNatClampNeg (((M10).1 a0 19))) (((M10).1 a0 17)) → ∀ M13 : mM, M13 = m_ui M12 a0 16 0 → P11_readsSum d Th a0 (m_ui M13 a0 18 0) (fun (v15 : Int32) (M14 : mM) => if v15 = 0 then (Q 0 M14) else (∃ r16 : Nat, M14.2.2 a0 26 = some r16 ∧ (m_okw Th r16 .int (((M14).1 a0 19)) ∧ (P11_readsCondition d Th a0 (m_ui M14 r16 (Int32.toNatClampNeg (((M14).1 a0 19))) (((M14).1 a0 17))) (fun (v20 : Int32) (M19 : mM) => if v20 = 0 then (Q 0 M19) else (∃ r21 : Nat, M19.2.2 a0 27 = some r21 ∧ (m_okw Th r21 .int (((M19).1 a0 19)) ∧ (∀ M24 : mM, M24 = m_ui M19 r21 (Int32.toNatClampNeg (((M19).1 a0 19))) (((M19).1 a0 17)) → Q 1 (m_ui M24 a0 19 ((((M24).1 a0 19) + 1)))))))))))))))))) : H11_readsClause_27 (d + 1) Th Q a0 x1 M := by
  show m_W (d + 1) 0 0 yX11_readsClause cX11_readsClause 2 (some .boolean) (m_qi Th Q) 27 [(0, .ref a0), (1, .int x1)] [] Th M 0 0
  refine m_aload_n dX11_readsClause_27 rfl 0 rfl ?_
  obtain ⟨q1, h⟩ := h
  refine m_geti f_X11_257 rfl dX11_readsClause_28 q1 ?_
  refine m_bipush (v := 14) dX11_readsClause_31 (by decide) ?_
  refine m_icmp_ne (tgt := 46) dX11_readsClause_33 (by decide) (fun c1 => ?_) (fun c1 => ?_)
  · rw [if_neg c1] at h
    refine m_aload_n dX11_readsClause_46 rfl 0 rfl ?_
    obtain ⟨r4, q5, h⟩ := h
    refine m_getr f_X11_38 rfl dX11_readsClause_47 q1 q5 ?_
    refine m_aload_n dX11_readsClause_50 rfl 0 rfl ?_
    refine m_geti f_X11_257 rfl dX11_readsClause_51 q1 ?_
    refine m_iload_n dX11_readsClause_54 rfl 1 rfl ?_
    obtain ⟨q6, h⟩ := h
    refine m_iast dX11_readsClause_55 q6 ?_
    refine m_aload_n dX11_readsClause_56 rfl 0 rfl ?_
    refine m_aload_n dX11_readsClause_57 rfl 0 rfl ?_
    obtain ⟨M7, e_M7⟩ : ∃ M7 : mM, M7 = m_ui M r4 (Int32.toNatClampNeg (((M).1 a0 19))) x1 := ⟨_, rfl⟩
    have h := h M7 e_M7
    rw [← e_M7]
    refine m_geti f_X11_179 rfl dX11_readsClause_58 q1 ?_
    refine m_iconst (v := 1) dX11_readsClause_61 (by decide) ?_
    refine m_iadd dX11_readsClause_62 ?_
    refine m_puti f_X11_179 rfl (Or.inl rfl) dX11_readsClause_63 q1 ⟨rfl, rfl⟩ ?_
    refine m_aload_n dX11_readsClause_66 rfl 0 rfl ?_
    obtain ⟨r8, q9, h⟩ := h
    refine m_getr f_X11_41 rfl dX11_readsClause_67 q1 (by rw [e_M7]; exact q9) ?_
    refine m_aload_n dX11_readsClause_70 rfl 0 rfl ?_
    obtain ⟨M10, e_M10⟩ : ∃ M10 : mM, M10 = m_ui M7 a0 13 ((((M7).1 a0 13) + 1)) := ⟨_, rfl⟩
    have h := h M10 e_M10
    rw [← e_M10]
    refine m_geti f_X11_257 rfl dX11_readsClause_71 q1 ?_
    refine m_aload_n dX11_readsClause_74 rfl 0 rfl ?_
    refine m_geti f_X11_202 rfl dX11_readsClause_75 q1 ?_
    obtain ⟨q11, h⟩ := h
    refine m_iast dX11_readsClause_78 q11 ?_
    refine m_aload_n dX11_readsClause_79 rfl 0 rfl ?_
    refine m_iconst (v := 0) dX11_readsClause_80 (by decide) ?_
    obtain ⟨M12, e_M12⟩ : ∃ M12 : mM, M12 = m_ui M10 r8 (Int32.toNatClampNeg (((M10).1 a0 19))) (((M10).1 a0 17)) := ⟨_, rfl⟩
    have h := h M12 e_M12
    rw [← e_M12]
    refine m_puti f_X11_206 rfl (Or.inl rfl) dX11_readsClause_81 q1 ⟨rfl, rfl⟩ ?_
    refine m_aload_n dX11_readsClause_84 rfl 0 rfl ?_
    refine m_iconst (v := 0) dX11_readsClause_85 (by decide) ?_
    obtain ⟨M13, e_M13⟩ : ∃ M13 : mM, M13 = m_ui M12 a0 16 0 := ⟨_, rfl⟩
    have h := h M13 e_M13
    rw [← e_M13]
    refine m_puti f_X11_209 rfl (Or.inl rfl) dX11_readsClause_86 q1 ⟨rfl, rfl⟩ ?_
    refine m_aload_n dX11_readsClause_89 rfl 0 rfl ?_
    refine m_invV (ci := 11) (As := []) (d' := d) (mc' := 0) (ms' := 0) (rest := []) i_11_readsSum v_11_readsSum t_11_readsSum l_X11_242 ⟨_, _, rfl⟩ dX11_readsClause_90 rfl rfl q1 (Nat.le_of_ble_eq_true rfl) (Nat.le_refl _) ⟨Nat.le_refl _, Nat.le_refl _⟩ (m_Ci h (fun v15 M14 h => ?_))
    show m_W (d + 1) 0 0 yX11_readsClause cX11_readsClause 2 (some .boolean) (m_qi Th Q) 93 [(0, .ref a0), (1, .int x1)] [.int v15] Th M14 0 0
    refine m_if_ne (tgt := 98) dX11_readsClause_93 (by decide) (fun c1 => ?_) (fun c1 => ?_)
    · rw [if_neg c1] at h
      refine m_aload_n dX11_readsClause_98 rfl 0 rfl ?_
      obtain ⟨r16, q17, h⟩ := h
      refine m_getr f_X11_44 rfl dX11_readsClause_99 q1 q17 ?_
      refine m_aload_n dX11_readsClause_102 rfl 0 rfl ?_
      refine m_geti f_X11_257 rfl dX11_readsClause_103 q1 ?_
      refine m_aload_n dX11_readsClause_106 rfl 0 rfl ?_
      refine m_geti f_X11_202 rfl dX11_readsClause_107 q1 ?_
      obtain ⟨q18, h⟩ := h
      refine m_iast dX11_readsClause_110 q18 ?_
      refine m_aload_n dX11_readsClause_111 rfl 0 rfl ?_
      refine m_invV (ci := 11) (As := []) (d' := d) (mc' := 0) (ms' := 0) (rest := []) i_11_readsCondition v_11_readsCondition t_11_readsCondition l_X11_260 ⟨_, _, rfl⟩ dX11_readsClause_112 rfl rfl q1 (Nat.le_of_ble_eq_true rfl) (Nat.le_refl _) ⟨Nat.le_refl _, Nat.le_refl _⟩ (m_Ci h (fun v20 M19 h => ?_))
      show m_W (d + 1) 0 0 yX11_readsClause cX11_readsClause 2 (some .boolean) (m_qi Th Q) 115 [(0, .ref a0), (1, .int x1)] [.int v20] Th M19 0 0
      refine m_if_ne (tgt := 120) dX11_readsClause_115 (by decide) (fun c1 => ?_) (fun c1 => ?_)
      · rw [if_neg c1] at h
        refine m_aload_n dX11_readsClause_120 rfl 0 rfl ?_
        obtain ⟨r21, q22, h⟩ := h
        refine m_getr f_X11_47 rfl dX11_readsClause_121 q1 q22 ?_
        refine m_aload_n dX11_readsClause_124 rfl 0 rfl ?_
        refine m_geti f_X11_257 rfl dX11_readsClause_125 q1 ?_
        refine m_aload_n dX11_readsClause_128 rfl 0 rfl ?_
        refine m_geti f_X11_202 rfl dX11_readsClause_129 q1 ?_
        obtain ⟨q23, h⟩ := h
        refine m_iast dX11_readsClause_132 q23 ?_
        refine m_aload_n dX11_readsClause_133 rfl 0 rfl ?_
        refine m_aload_n dX11_readsClause_134 rfl 0 rfl ?_
        obtain ⟨M24, e_M24⟩ : ∃ M24 : mM, M24 = m_ui M19 r21 (Int32.toNatClampNeg (((M19).1 a0 19))) (((M19).1 a0 17)) := ⟨_, rfl⟩
        have h := h M24 e_M24
        rw [← e_M24]
        refine m_geti f_X11_257 rfl dX11_readsClause_135 q1 ?_
        refine m_iconst (v := 1) dX11_readsClause_138 (by decide) ?_
        refine m_iadd dX11_readsClause_139 ?_
        refine m_puti f_X11_257 rfl (Or.inl rfl) dX11_readsClause_140 q1 ⟨rfl, rfl⟩ ?_
        refine m_iconst (v := 1) dX11_readsClause_143 (by decide) ?_
        exact m_ireturn dX11_readsClause_144 rfl (by decide) ⟨rfl, _, rfl, h⟩
      · rw [if_pos c1] at h
        refine m_iconst (v := 0) dX11_readsClause_118 (by decide) ?_
        exact m_ireturn dX11_readsClause_119 rfl (by decide) ⟨rfl, _, rfl, h⟩
    · rw [if_pos c1] at h
      refine m_iconst (v := 0) dX11_readsClause_96 (by decide) ?_
      exact m_ireturn dX11_readsClause_97 rfl (by decide) ⟨rfl, _, rfl, h⟩
  · rw [if_pos c1] at h
    refine m_aload_n dX11_readsClause_36 rfl 0 rfl ?_
    refine m_iconst (v := 4) dX11_readsClause_37 (by decide) ?_
    refine m_aload_n dX11_readsClause_38 rfl 0 rfl ?_
    refine m_geti f_X11_179 rfl dX11_readsClause_39 q1 ?_
    refine m_invV (ci := 11) (As := [.int 4, .int (((M).1 a0 13))]) (d' := d) (mc' := 0) (ms' := 0) (rest := []) i_11_wrong v_11_wrong t_11_wrong l_X11_191 ⟨_, _, rfl⟩ dX11_readsClause_42 rfl rfl q1 (Nat.le_of_ble_eq_true rfl) (Nat.le_refl _) ⟨Nat.le_refl _, Nat.le_refl _⟩ (m_Ci h (fun v3 M2 h => ?_))
    show m_W (d + 1) 0 0 yX11_readsClause cX11_readsClause 2 (some .boolean) (m_qi Th Q) 45 [(0, .ref a0), (1, .int x1)] [.int v3] Th M2 0 0
    exact m_ireturn dX11_readsClause_45 rfl h.1 ⟨rfl, _, rfl, h.2⟩
set_option maxHeartbeats 4000000 in
set_option maxRecDepth 100000 in
theorem e11_readsClause {d : Nat} {Th : mT} {Q : Int32 → mM → Prop} {a0 : Nat} {M : mM} (h : Th.2.2 a0 = some (.inl 11) ∧ (P11_here d Th a0 M (fun (v2 : Int32) (M1 : mM) => if v2 = 115 then (H11_readsClause_27 (d + 1) Th Q a0 v2 M1) else (if v2 = 101 then (H11_readsClause_27 (d + 1) Th Q a0 v2 M1) else (P11_wrong d Th a0 1 (((M1).1 a0 13)) M1 (fun (v5 : Int32) (M4 : mM) => m_bool v5 ∧ Q v5 M4)))))) : P11_readsClause (d + 1) Th a0 M Q := by
  refine m_C.of (by decide +kernel) (Nat.le_of_ble_eq_true rfl) ?_
  show m_W (d + 1) 0 0 yX11_readsClause cX11_readsClause 2 (some .boolean) (m_qi Th Q) 0 [(0, .ref a0)] [] Th M 0 0
  refine m_aload_n dX11_readsClause_0 rfl 0 rfl ?_
  obtain ⟨q3, h⟩ := h
  refine m_invV (ci := 11) (As := []) (d' := d) (mc' := 0) (ms' := 0) (rest := []) i_11_here v_11_here t_11_here l_X11_185 ⟨_, _, rfl⟩ dX11_readsClause_1 rfl rfl q3 (Nat.le_of_ble_eq_true rfl) (Nat.le_refl _) ⟨Nat.le_refl _, Nat.le_refl _⟩ (m_Ci h (fun v2 M1 h => ?_))
  show m_W (d + 1) 0 0 yX11_readsClause cX11_readsClause 2 (some .boolean) (m_qi Th Q) 4 [(0, .ref a0)] [.int v2] Th M1 0 0
  refine m_istore_n (lv' := [(1, .int v2), (0, .ref a0)]) dX11_readsClause_4 rfl (by decide) rfl ?_
  refine m_iload_n dX11_readsClause_5 rfl 0 rfl ?_
  refine m_bipush (v := 115) dX11_readsClause_6 (by decide) ?_
  refine m_icmp_eq (tgt := 27) dX11_readsClause_8 (by decide) (fun c1 => ?_) (fun c1 => ?_)
  · rw [if_pos c1] at h
    exact m_sub [1, 0] rfl h
  · rw [if_neg c1] at h
    refine m_iload_n dX11_readsClause_11 rfl 0 rfl ?_
    refine m_bipush (v := 101) dX11_readsClause_12 (by decide) ?_
    refine m_icmp_eq (tgt := 27) dX11_readsClause_14 (by decide) (fun c1 => ?_) (fun c1 => ?_)
    · rw [if_pos c1] at h
      exact m_sub [1, 0] rfl h
    · rw [if_neg c1] at h
      refine m_aload_n dX11_readsClause_17 rfl 1 rfl ?_
      refine m_iconst (v := 1) dX11_readsClause_18 (by decide) ?_
      refine m_aload_n dX11_readsClause_19 rfl 1 rfl ?_
      refine m_geti f_X11_179 rfl dX11_readsClause_20 q3 ?_
      refine m_invV (ci := 11) (As := [.int 1, .int (((M1).1 a0 13))]) (d' := d) (mc' := 0) (ms' := 0) (rest := []) i_11_wrong v_11_wrong t_11_wrong l_X11_191 ⟨_, _, rfl⟩ dX11_readsClause_23 rfl rfl q3 (Nat.le_of_ble_eq_true rfl) (Nat.le_refl _) ⟨Nat.le_refl _, Nat.le_refl _⟩ (m_Ci h (fun v5 M4 h => ?_))
      show m_W (d + 1) 0 0 yX11_readsClause cX11_readsClause 2 (some .boolean) (m_qi Th Q) 26 [(1, .int v2), (0, .ref a0)] [.int v5] Th M4 0 0
      exact m_ireturn dX11_readsClause_26 rfl h.1 ⟨rfl, _, rfl, h.2⟩
set_option maxHeartbeats 4000000 in
set_option maxRecDepth 100000 in
theorem h11_law_46 {d : Nat} {Th : mT} {Q : Int32 → mM → Prop} {a0 : Nat} {x2 : Int32} {M : mM} (h : if x2 = 0 then (H11_law_86 (d + 1) Th Q a0 x2 M) else (Th.2.2 a0 = some (.inl 11) ∧ (if ((M).1 a0 14) ≤ ((M).1 a0 13) then (H11_law_86 (d + 1) Th Q a0 x2 M) else (P11_takes d Th a0 59 M (fun (v3 : Int32) (M2 : mM) => if v3 = 0 then (H11_law_46 (d + 1) Th Q a0 0 M2) else (P11_readsClause d Th a0 M2 (fun (v5 : Int32) (M4 : mM) => ∀ xv6 : Int32, xv6 = (if v5 = 0 then 0 else 1) → H11_law_46 (d + 1) Th Q a0 xv6 M4))))))) : H11_law_46 (d + 1) Th Q a0 x2 M := by
  show m_W (d + 1) 0 0 yX11_law cX11_law 4 (some .int) (m_qi Th Q) 46 [(0, .ref a0), (2, .int x2)] [] Th M 0 0
  refine m_iload_n dX11_law_46 rfl 1 rfl ?_
  refine m_if_eq (tgt := 86) dX11_law_47 (by decide) (fun c1 => ?_) (fun c1 => ?_)
  · rw [if_pos c1] at h
    exact h
  · rw [if_neg c1] at h
    refine m_aload_n dX11_law_50 rfl 0 rfl ?_
    obtain ⟨q1, h⟩ := h
    refine m_geti f_X11_179 rfl dX11_law_51 q1 ?_
    refine m_aload_n dX11_law_54 rfl 0 rfl ?_
    refine m_geti f_X11_182 rfl dX11_law_55 q1 ?_
    refine m_icmp_ge (tgt := 86) dX11_law_58 (by decide) (fun c1 => ?_) (fun c1 => ?_)
    · rw [if_pos c1] at h
      exact h
    · rw [if_neg c1] at h
      refine m_aload_n dX11_law_61 rfl 0 rfl ?_
      refine m_bipush (v := 59) dX11_law_62 (by decide) ?_
      refine m_invV (ci := 11) (As := [.int 59]) (d' := d) (mc' := 0) (ms' := 0) (rest := []) i_11_takes v_11_takes t_11_takes l_X11_266 ⟨_, _, rfl⟩ dX11_law_64 rfl rfl q1 (Nat.le_of_ble_eq_true rfl) (Nat.le_refl _) ⟨Nat.le_refl _, Nat.le_refl _⟩ (m_Ci h (fun v3 M2 h => ?_))
      show m_W (d + 1) 0 0 yX11_law cX11_law 4 (some .int) (m_qi Th Q) 67 [(0, .ref a0), (2, .int x2)] [.int v3] Th M2 0 0
      refine m_if_eq (tgt := 81) dX11_law_67 (by decide) (fun c1 => ?_) (fun c1 => ?_)
      · rw [if_pos c1] at h
        refine m_iconst (v := 0) dX11_law_81 (by decide) ?_
        refine m_istore_n (lv' := [(2, .int 0), (0, .ref a0)]) dX11_law_82 rfl (by decide) rfl ?_
        refine m_goto (tgt := 46) dX11_law_83 (by decide) ?_
        exact m_sub [1, 0] rfl h
      · rw [if_neg c1] at h
        refine m_aload_n dX11_law_70 rfl 0 rfl ?_
        refine m_invV (ci := 11) (As := []) (d' := d) (mc' := 0) (ms' := 0) (rest := []) i_11_readsClause v_11_readsClause t_11_readsClause l_X11_263 ⟨_, _, rfl⟩ dX11_law_71 rfl rfl q1 (Nat.le_of_ble_eq_true rfl) (Nat.le_refl _) ⟨Nat.le_refl _, Nat.le_refl _⟩ (m_Ci h (fun v5 M4 h => ?_))
        show m_W (d + 1) 0 0 yX11_law cX11_law 4 (some .int) (m_qi Th Q) 74 [(0, .ref a0), (2, .int x2)] [.int v5] Th M4 0 0
        have hJ : m_W (d + 1) 0 0 yX11_law cX11_law 4 (some .int) (m_qi Th Q) 82 [(0, .ref a0), (2, .int x2)] [.int ((if v5 = 0 then 0 else 1))] Th M4 0 0 := by
          obtain ⟨xv6, e_xv6⟩ : ∃ xv6 : Int32, xv6 = (if v5 = 0 then 0 else 1) := ⟨_, rfl⟩
          have h := h xv6 e_xv6
          rw [← e_xv6]
          refine m_istore_n (lv' := [(2, .int xv6), (0, .ref a0)]) dX11_law_82 rfl (by decide) rfl ?_
          refine m_goto (tgt := 46) dX11_law_83 (by decide) ?_
          exact m_sub [1, 0] rfl h
        refine m_if_eq (tgt := 81) dX11_law_74 (by decide) (fun c1 => ?_) (fun c1 => ?_)
        · simp only [if_pos c1] at hJ
          refine m_iconst (v := 0) dX11_law_81 (by decide) ?_
          exact hJ
        · simp only [if_neg c1] at hJ
          refine m_iconst (v := 1) dX11_law_77 (by decide) ?_
          refine m_goto (tgt := 82) dX11_law_78 (by decide) ?_
          exact hJ
set_option maxHeartbeats 4000000 in
set_option maxRecDepth 100000 in
theorem h11_law_86 {d : Nat} {Th : mT} {Q : Int32 → mM → Prop} {a0 : Nat} {x2 : Int32} {M : mM} (h : Th.2.2 a0 = some (.inl 11) ∧ (if x2 = 0 then (∀ M2 : mM, M2 = m_ui M a0 12 0 → Q (((M2).1 a0 15)) M2) else (∀ M3 : mM, M3 = m_ui M a0 12 0 → H11_law_110 (d + 1) Th Q a0 0 (m_ui M3 a0 21 (((M3).1 a0 19)))))) : H11_law_86 (d + 1) Th Q a0 x2 M := by
  show m_W (d + 1) 0 0 yX11_law cX11_law 4 (some .int) (m_qi Th Q) 86 [(0, .ref a0), (2, .int x2)] [] Th M 0 0
  refine m_aload_n dX11_law_86 rfl 0 rfl ?_
  refine m_iconst (v := 0) dX11_law_87 (by decide) ?_
  obtain ⟨q1, h⟩ := h
  refine m_puti f_X11_172 rfl (Or.inl rfl) dX11_law_88 q1 ⟨rfl, rfl⟩ ?_
  refine m_iload_n dX11_law_91 rfl 1 rfl ?_
  refine m_if_ne (tgt := 100) dX11_law_92 (by decide) (fun c1 => ?_) (fun c1 => ?_)
  · rw [if_neg c1] at h
    refine m_aload_n dX11_law_100 rfl 0 rfl ?_
    refine m_aload_n dX11_law_101 rfl 0 rfl ?_
    obtain ⟨M3, e_M3⟩ : ∃ M3 : mM, M3 = m_ui M a0 12 0 := ⟨_, rfl⟩
    have h := h M3 e_M3
    rw [← e_M3]
    refine m_geti f_X11_257 rfl dX11_law_102 q1 ?_
    refine m_puti f_X11_269 rfl (Or.inl rfl) dX11_law_105 q1 ⟨rfl, rfl⟩ ?_
    refine m_iconst (v := 0) dX11_law_108 (by decide) ?_
    refine m_istore_n (lv' := [(3, .int 0), (0, .ref a0), (2, .int x2)]) dX11_law_109 rfl (by decide) rfl ?_
    exact m_sub [1, 0] rfl h
  · rw [if_pos c1] at h
    refine m_aload_n dX11_law_95 rfl 0 rfl ?_
    obtain ⟨M2, e_M2⟩ : ∃ M2 : mM, M2 = m_ui M a0 12 0 := ⟨_, rfl⟩
    have h := h M2 e_M2
    rw [← e_M2]
    refine m_geti f_X11_188 rfl dX11_law_96 q1 ?_
    exact m_ireturn dX11_law_99 rfl rfl ⟨rfl, _, rfl, h⟩
set_option maxHeartbeats 4000000 in
set_option maxRecDepth 100000 in
theorem h11_law_110 {d : Nat} {Th : mT} {Q : Int32 → mM → Prop} {a0 : Nat} {x3 : Int32} {M : mM} (h : Th.2.2 a0 = some (.inl 11) ∧ (if ((M).1 a0 17) ≤ x3 then (H11_law_138 (d + 1) Th Q a0 0 M) else (∃ r2 : Nat, M.2.2 a0 28 = some r2 ∧ (∃ r4 : Nat, M.2.2 a0 22 = some r4 ∧ (m_ok Th r4 .int x3 ∧ (m_okw Th r2 .int x3 ∧ (H11_law_110 (d + 1) Th Q a0 (x3 + 1) (m_ui M r2 (Int32.toNatClampNeg x3) (((M).1 r4 (Int32.toNatClampNeg x3))))))))))) : H11_law_110 (d + 1) Th Q a0 x3 M := by
  show m_W (d + 1) 0 0 yX11_law cX11_law 4 (some .int) (m_qi Th Q) 110 [(0, .ref a0), (3, .int x3)] [] Th M 0 0
  refine m_iload_n dX11_law_110 rfl 1 rfl ?_
  refine m_aload_n dX11_law_111 rfl 0 rfl ?_
  obtain ⟨q1, h⟩ := h
  refine m_geti f_X11_202 rfl dX11_law_112 q1 ?_
  refine m_icmp_ge (tgt := 136) dX11_law_115 (by decide) (fun c1 => ?_) (fun c1 => ?_)
  · rw [if_pos c1] at h
    refine m_iconst (v := 0) dX11_law_136 (by decide) ?_
    refine m_istore_n (lv' := [(3, .int 0), (0, .ref a0)]) dX11_law_137 rfl (by decide) rfl ?_
    exact m_sub [1, 0] rfl h
  · rw [if_neg c1] at h
    refine m_aload_n dX11_law_118 rfl 0 rfl ?_
    obtain ⟨r2, q3, h⟩ := h
    refine m_getr f_X11_50 rfl dX11_law_119 q1 q3 ?_
    refine m_iload_n dX11_law_122 rfl 1 rfl ?_
    refine m_aload_n dX11_law_123 rfl 0 rfl ?_
    obtain ⟨r4, q5, h⟩ := h
    refine m_getr f_X11_32 rfl dX11_law_124 q1 q5 ?_
    refine m_iload_n dX11_law_127 rfl 1 rfl ?_
    obtain ⟨q6, h⟩ := h
    refine m_iald dX11_law_128 q6 ?_
    obtain ⟨q7, h⟩ := h
    refine m_iast dX11_law_129 q7 ?_
    refine m_iinc (v := x3 + 1) (lv' := [(3, .int (x3 + 1)), (0, .ref a0)]) dX11_law_130 1 rfl rfl (by decide) rfl ?_
    refine m_goto (tgt := 110) dX11_law_133 (by decide) ?_
    exact m_sub [1, 0] rfl h
set_option maxHeartbeats 4000000 in
set_option maxRecDepth 100000 in
theorem h11_law_138 {d : Nat} {Th : mT} {Q : Int32 → mM → Prop} {a0 : Nat} {x3 : Int32} {M : mM} (h : Th.2.2 a0 = some (.inl 11) ∧ (if ((M).1 a0 19) ≤ x3 then (Q (((M).1 a0 19)) M) else (∃ r2 : Nat, M.2.2 a0 29 = some r2 ∧ (∃ r4 : Nat, M.2.2 a0 24 = some r4 ∧ (m_ok Th r4 .int x3 ∧ (m_okw Th r2 .int x3 ∧ (∃ r8 : Nat, M.2.2 a0 30 = some r8 ∧ (∃ r10 : Nat, M.2.2 a0 25 = some r10 ∧ (m_ok Th r10 .int x3 ∧ (∀ M13 : mM, M13 = m_ui M r2 (Int32.toNatClampNeg x3) (((M).1 r4 (Int32.toNatClampNeg x3))) → m_okw Th r8 .int x3 ∧ (∃ r15 : Nat, M.2.2 a0 31 = some r15 ∧ (∃ r17 : Nat, M.2.2 a0 26 = some r17 ∧ (m_ok Th r17 .int x3 ∧ (∀ M20 : mM, M20 = m_ui M13 r8 (Int32.toNatClampNeg x3) (((M13).1 r10 (Int32.toNatClampNeg x3))) → m_okw Th r15 .int x3 ∧ (∃ r22 : Nat, M.2.2 a0 32 = some r22 ∧ (∃ r24 : Nat, M.2.2 a0 27 = some r24 ∧ (m_ok Th r24 .int x3 ∧ (∀ M27 : mM, M27 = m_ui M20 r15 (Int32.toNatClampNeg x3) (((M20).1 r17 (Int32.toNatClampNeg x3))) → m_okw Th r22 .int x3 ∧ (H11_law_138 (d + 1) Th Q a0 (x3 + 1) (m_ui M27 r22 (Int32.toNatClampNeg x3) (((M27).1 r24 (Int32.toNatClampNeg x3))))))))))))))))))))))) : H11_law_138 (d + 1) Th Q a0 x3 M := by
  show m_W (d + 1) 0 0 yX11_law cX11_law 4 (some .int) (m_qi Th Q) 138 [(0, .ref a0), (3, .int x3)] [] Th M 0 0
  refine m_iload_n dX11_law_138 rfl 1 rfl ?_
  refine m_aload_n dX11_law_139 rfl 0 rfl ?_
  obtain ⟨q1, h⟩ := h
  refine m_geti f_X11_257 rfl dX11_law_140 q1 ?_
  refine m_icmp_ge (tgt := 200) dX11_law_143 (by decide) (fun c1 => ?_) (fun c1 => ?_)
  · rw [if_pos c1] at h
    refine m_aload_n dX11_law_200 rfl 0 rfl ?_
    refine m_geti f_X11_257 rfl dX11_law_201 q1 ?_
    exact m_ireturn dX11_law_204 rfl rfl ⟨rfl, _, rfl, h⟩
  · rw [if_neg c1] at h
    refine m_aload_n dX11_law_146 rfl 0 rfl ?_
    obtain ⟨r2, q3, h⟩ := h
    refine m_getr f_X11_53 rfl dX11_law_147 q1 q3 ?_
    refine m_iload_n dX11_law_150 rfl 1 rfl ?_
    refine m_aload_n dX11_law_151 rfl 0 rfl ?_
    obtain ⟨r4, q5, h⟩ := h
    refine m_getr f_X11_38 rfl dX11_law_152 q1 q5 ?_
    refine m_iload_n dX11_law_155 rfl 1 rfl ?_
    obtain ⟨q6, h⟩ := h
    refine m_iald dX11_law_156 q6 ?_
    obtain ⟨q7, h⟩ := h
    refine m_iast dX11_law_157 q7 ?_
    refine m_aload_n dX11_law_158 rfl 0 rfl ?_
    obtain ⟨r8, q9, h⟩ := h
    refine m_getr f_X11_56 rfl dX11_law_159 q1 q9 ?_
    refine m_iload_n dX11_law_162 rfl 1 rfl ?_
    refine m_aload_n dX11_law_163 rfl 0 rfl ?_
    obtain ⟨r10, q11, h⟩ := h
    refine m_getr f_X11_41 rfl dX11_law_164 q1 q11 ?_
    refine m_iload_n dX11_law_167 rfl 1 rfl ?_
    obtain ⟨q12, h⟩ := h
    obtain ⟨M13, e_M13⟩ : ∃ M13 : mM, M13 = m_ui M r2 (Int32.toNatClampNeg x3) (((M).1 r4 (Int32.toNatClampNeg x3))) := ⟨_, rfl⟩
    have h := h M13 e_M13
    rw [← e_M13]
    refine m_iald dX11_law_168 q12 ?_
    obtain ⟨q14, h⟩ := h
    refine m_iast dX11_law_169 q14 ?_
    refine m_aload_n dX11_law_170 rfl 0 rfl ?_
    obtain ⟨r15, q16, h⟩ := h
    refine m_getr f_X11_59 rfl dX11_law_171 q1 (by rw [e_M13]; exact q16) ?_
    refine m_iload_n dX11_law_174 rfl 1 rfl ?_
    refine m_aload_n dX11_law_175 rfl 0 rfl ?_
    obtain ⟨r17, q18, h⟩ := h
    refine m_getr f_X11_44 rfl dX11_law_176 q1 (by rw [e_M13]; exact q18) ?_
    refine m_iload_n dX11_law_179 rfl 1 rfl ?_
    obtain ⟨q19, h⟩ := h
    obtain ⟨M20, e_M20⟩ : ∃ M20 : mM, M20 = m_ui M13 r8 (Int32.toNatClampNeg x3) (((M13).1 r10 (Int32.toNatClampNeg x3))) := ⟨_, rfl⟩
    have h := h M20 e_M20
    rw [← e_M20]
    refine m_iald dX11_law_180 q19 ?_
    obtain ⟨q21, h⟩ := h
    refine m_iast dX11_law_181 q21 ?_
    refine m_aload_n dX11_law_182 rfl 0 rfl ?_
    obtain ⟨r22, q23, h⟩ := h
    refine m_getr f_X11_62 rfl dX11_law_183 q1 (by rw [e_M20, e_M13]; exact q23) ?_
    refine m_iload_n dX11_law_186 rfl 1 rfl ?_
    refine m_aload_n dX11_law_187 rfl 0 rfl ?_
    obtain ⟨r24, q25, h⟩ := h
    refine m_getr f_X11_47 rfl dX11_law_188 q1 (by rw [e_M20, e_M13]; exact q25) ?_
    refine m_iload_n dX11_law_191 rfl 1 rfl ?_
    obtain ⟨q26, h⟩ := h
    obtain ⟨M27, e_M27⟩ : ∃ M27 : mM, M27 = m_ui M20 r15 (Int32.toNatClampNeg x3) (((M20).1 r17 (Int32.toNatClampNeg x3))) := ⟨_, rfl⟩
    have h := h M27 e_M27
    rw [← e_M27]
    refine m_iald dX11_law_192 q26 ?_
    obtain ⟨q28, h⟩ := h
    refine m_iast dX11_law_193 q28 ?_
    refine m_iinc (v := x3 + 1) (lv' := [(3, .int (x3 + 1)), (0, .ref a0)]) dX11_law_194 1 rfl rfl (by decide) rfl ?_
    refine m_goto (tgt := 138) dX11_law_197 (by decide) ?_
    exact m_sub [1, 0] rfl h
set_option maxHeartbeats 4000000 in
set_option maxRecDepth 100000 in
theorem e11_law {d : Nat} {Th : mT} {Q : Int32 → mM → Prop} {a0 : Nat} {x1 : Int32} {M : mM} (h : P11_in d Th x1 1 200 M (fun (v2 : Int32) (M1 : mM) => if v2 = 0 then (Q (-1) M1) else (Th.2.2 a0 = some (.inl 11) ∧ (if x1 ≤ ((M1).1 a0 12) then (∀ M4 : mM, M4 = m_ui M1 a0 13 0 → ∀ M5 : mM, M5 = m_ui M4 a0 14 x1 → ∀ M6 : mM, M6 = m_ui M5 a0 17 0 → P11_readsClause d Th a0 (m_ui M6 a0 19 0) (fun (v8 : Int32) (M7 : mM) => H11_law_46 (d + 1) Th Q a0 v8 M7)) else (Q (-1) M1))))) : P11_law (d + 1) Th a0 x1 M Q := by
  refine m_C.of (by decide +kernel) (Nat.le_of_ble_eq_true rfl) ?_
  show m_W (d + 1) 0 0 yX11_law cX11_law 4 (some .int) (m_qi Th Q) 0 [(0, .ref a0), (1, .int x1)] [] Th M 0 0
  refine m_iload_n dX11_law_0 rfl 1 rfl ?_
  refine m_iconst (v := 1) dX11_law_1 (by decide) ?_
  refine m_sipush (v := 200) dX11_law_2 (by decide) ?_
  refine m_invS (As := [.int x1, .int 1, .int 200]) (d' := d) (mc' := 0) (ms' := 0) (rest := []) i_11_in s_11_in l_X11_148 dX11_law_5 rfl rfl (Nat.le_of_ble_eq_true rfl) (Nat.le_refl _) ⟨Nat.le_refl _, Nat.le_refl _⟩ (m_Ci h (fun v2 M1 h => ?_))
  show m_W (d + 1) 0 0 yX11_law cX11_law 4 (some .int) (m_qi Th Q) 8 [(0, .ref a0), (1, .int x1)] [.int v2] Th M1 0 0
  refine m_if_eq (tgt := 19) dX11_law_8 (by decide) (fun c1 => ?_) (fun c1 => ?_)
  · rw [if_pos c1] at h
    refine m_iconst (v := (-1)) dX11_law_19 (by decide) ?_
    exact m_ireturn dX11_law_20 rfl rfl ⟨rfl, _, rfl, h⟩
  · rw [if_neg c1] at h
    refine m_iload_n dX11_law_11 rfl 1 rfl ?_
    refine m_aload_n dX11_law_12 rfl 0 rfl ?_
    obtain ⟨q3, h⟩ := h
    refine m_geti f_X11_172 rfl dX11_law_13 q3 ?_
    refine m_icmp_le (tgt := 21) dX11_law_16 (by decide) (fun c1 => ?_) (fun c1 => ?_)
    · rw [if_pos c1] at h
      refine m_aload_n dX11_law_21 rfl 0 rfl ?_
      refine m_iconst (v := 0) dX11_law_22 (by decide) ?_
      refine m_puti f_X11_179 rfl (Or.inl rfl) dX11_law_23 q3 ⟨rfl, rfl⟩ ?_
      refine m_aload_n dX11_law_26 rfl 0 rfl ?_
      refine m_iload_n dX11_law_27 rfl 1 rfl ?_
      obtain ⟨M4, e_M4⟩ : ∃ M4 : mM, M4 = m_ui M1 a0 13 0 := ⟨_, rfl⟩
      have h := h M4 e_M4
      rw [← e_M4]
      refine m_puti f_X11_182 rfl (Or.inl rfl) dX11_law_28 q3 ⟨rfl, rfl⟩ ?_
      refine m_aload_n dX11_law_31 rfl 0 rfl ?_
      refine m_iconst (v := 0) dX11_law_32 (by decide) ?_
      obtain ⟨M5, e_M5⟩ : ∃ M5 : mM, M5 = m_ui M4 a0 14 x1 := ⟨_, rfl⟩
      have h := h M5 e_M5
      rw [← e_M5]
      refine m_puti f_X11_202 rfl (Or.inl rfl) dX11_law_33 q3 ⟨rfl, rfl⟩ ?_
      refine m_aload_n dX11_law_36 rfl 0 rfl ?_
      refine m_iconst (v := 0) dX11_law_37 (by decide) ?_
      obtain ⟨M6, e_M6⟩ : ∃ M6 : mM, M6 = m_ui M5 a0 17 0 := ⟨_, rfl⟩
      have h := h M6 e_M6
      rw [← e_M6]
      refine m_puti f_X11_257 rfl (Or.inl rfl) dX11_law_38 q3 ⟨rfl, rfl⟩ ?_
      refine m_aload_n dX11_law_41 rfl 0 rfl ?_
      refine m_invV (ci := 11) (As := []) (d' := d) (mc' := 0) (ms' := 0) (rest := []) i_11_readsClause v_11_readsClause t_11_readsClause l_X11_263 ⟨_, _, rfl⟩ dX11_law_42 rfl rfl q3 (Nat.le_of_ble_eq_true rfl) (Nat.le_refl _) ⟨Nat.le_refl _, Nat.le_refl _⟩ (m_Ci h (fun v8 M7 h => ?_))
      show m_W (d + 1) 0 0 yX11_law cX11_law 4 (some .int) (m_qi Th Q) 45 [(0, .ref a0), (1, .int x1)] [.int v8] Th M7 0 0
      refine m_istore_n (lv' := [(2, .int v8), (0, .ref a0), (1, .int x1)]) dX11_law_45 rfl (by decide) rfl ?_
      exact m_sub [1, 0] rfl h
    · rw [if_neg c1] at h
      refine m_iconst (v := (-1)) dX11_law_19 (by decide) ?_
      exact m_ireturn dX11_law_20 rfl rfl ⟨rfl, _, rfl, h⟩
set_option maxHeartbeats 4000000 in
set_option maxRecDepth 100000 in
theorem e11_reckon {d : Nat} {Th : mT} {Q : Int32 → mM → Prop} {x0 : Int32} {x1 : Int32} {x2 : Int32} {M : mM} (h : if x0 = 2 then (Q ((x1 + x2)) M) else (if x0 = 3 then (Q ((x1 - x2)) M) else (if x0 = 4 then (Q ((x1 * x2)) M) else (if x0 = 5 then (¬ (x2 = 0) ∧ (Q ((x1 / x2)) M)) else (if x0 = 6 then (¬ (x2 = 0) ∧ (Q ((x1 - x1 / x2 * x2)) M)) else (if x0 = 7 then (Q ((if x2 ≤ x1 then 0 else 1)) M) else (if x0 = 8 then (Q ((if x1 ≤ x2 then 0 else 1)) M) else (Q ((if x1 = x2 then 1 else 0)) M)))))))) : P11_reckon (d + 1) Th x0 x1 x2 M Q := by
  refine m_C.of (by decide +kernel) (Nat.le_of_ble_eq_true rfl) ?_
  show m_W (d + 1) 0 0 yX11_reckon cX11_reckon 3 (some .int) (m_qi Th Q) 0 [(0, .int x0), (1, .int x1), (2, .int x2)] [] Th M 0 0
  refine m_iload_n dX11_reckon_0 rfl 0 rfl ?_
  by_cases c0 : x0 = 2
  · rw [if_pos c0] at h
    refine m_tableIn (off := 43) (tgt := 44) dX11_reckon_1 (by rw [c0]; decide) (by rw [c0]; decide) (by rw [c0]; decide) (by decide) ?_
    refine m_iload_n dX11_reckon_44 rfl 1 rfl ?_
    refine m_iload_n dX11_reckon_45 rfl 2 rfl ?_
    refine m_iadd dX11_reckon_46 ?_
    exact m_ireturn dX11_reckon_47 rfl rfl ⟨rfl, _, rfl, h⟩
  rw [if_neg c0] at h
  by_cases c1 : x0 = 3
  · rw [if_pos c1] at h
    refine m_tableIn (off := 47) (tgt := 48) dX11_reckon_1 (by rw [c1]; decide) (by rw [c1]; decide) (by rw [c1]; decide) (by decide) ?_
    refine m_iload_n dX11_reckon_48 rfl 1 rfl ?_
    refine m_iload_n dX11_reckon_49 rfl 2 rfl ?_
    refine m_isub dX11_reckon_50 ?_
    exact m_ireturn dX11_reckon_51 rfl rfl ⟨rfl, _, rfl, h⟩
  rw [if_neg c1] at h
  by_cases c2 : x0 = 4
  · rw [if_pos c2] at h
    refine m_tableIn (off := 51) (tgt := 52) dX11_reckon_1 (by rw [c2]; decide) (by rw [c2]; decide) (by rw [c2]; decide) (by decide) ?_
    refine m_iload_n dX11_reckon_52 rfl 1 rfl ?_
    refine m_iload_n dX11_reckon_53 rfl 2 rfl ?_
    refine m_imul dX11_reckon_54 ?_
    exact m_ireturn dX11_reckon_55 rfl rfl ⟨rfl, _, rfl, h⟩
  rw [if_neg c2] at h
  by_cases c3 : x0 = 5
  · rw [if_pos c3] at h
    refine m_tableIn (off := 55) (tgt := 56) dX11_reckon_1 (by rw [c3]; decide) (by rw [c3]; decide) (by rw [c3]; decide) (by decide) ?_
    refine m_iload_n dX11_reckon_56 rfl 1 rfl ?_
    refine m_iload_n dX11_reckon_57 rfl 2 rfl ?_
    obtain ⟨q1, h⟩ := h
    refine m_idiv dX11_reckon_58 q1 ?_
    exact m_ireturn dX11_reckon_59 rfl rfl ⟨rfl, _, rfl, h⟩
  rw [if_neg c3] at h
  by_cases c4 : x0 = 6
  · rw [if_pos c4] at h
    refine m_tableIn (off := 59) (tgt := 60) dX11_reckon_1 (by rw [c4]; decide) (by rw [c4]; decide) (by rw [c4]; decide) (by decide) ?_
    refine m_iload_n dX11_reckon_60 rfl 1 rfl ?_
    refine m_iload_n dX11_reckon_61 rfl 2 rfl ?_
    obtain ⟨q2, h⟩ := h
    refine m_irem dX11_reckon_62 q2 ?_
    exact m_ireturn dX11_reckon_63 rfl rfl ⟨rfl, _, rfl, h⟩
  rw [if_neg c4] at h
  by_cases c5 : x0 = 7
  · rw [if_pos c5] at h
    refine m_tableIn (off := 63) (tgt := 64) dX11_reckon_1 (by rw [c5]; decide) (by rw [c5]; decide) (by rw [c5]; decide) (by decide) ?_
    refine m_iload_n dX11_reckon_64 rfl 1 rfl ?_
    refine m_iload_n dX11_reckon_65 rfl 2 rfl ?_
    have hJ : m_W (d + 1) 0 0 yX11_reckon cX11_reckon 3 (some .int) (m_qi Th Q) 74 [(0, .int x0), (1, .int x1), (2, .int x2)] [.int ((if x2 ≤ x1 then 0 else 1))] Th M 0 0 := by
      exact m_ireturn dX11_reckon_74 rfl rfl ⟨rfl, _, rfl, h⟩
    refine m_icmp_ge (tgt := 73) dX11_reckon_66 (by decide) (fun c1 => ?_) (fun c1 => ?_)
    · simp only [if_pos c1] at hJ
      refine m_iconst (v := 0) dX11_reckon_73 (by decide) ?_
      exact hJ
    · simp only [if_neg c1] at hJ
      refine m_iconst (v := 1) dX11_reckon_69 (by decide) ?_
      refine m_goto (tgt := 74) dX11_reckon_70 (by decide) ?_
      exact hJ
  rw [if_neg c5] at h
  by_cases c6 : x0 = 8
  · rw [if_pos c6] at h
    refine m_tableIn (off := 74) (tgt := 75) dX11_reckon_1 (by rw [c6]; decide) (by rw [c6]; decide) (by rw [c6]; decide) (by decide) ?_
    refine m_iload_n dX11_reckon_75 rfl 1 rfl ?_
    refine m_iload_n dX11_reckon_76 rfl 2 rfl ?_
    have hJ : m_W (d + 1) 0 0 yX11_reckon cX11_reckon 3 (some .int) (m_qi Th Q) 85 [(0, .int x0), (1, .int x1), (2, .int x2)] [.int ((if x1 ≤ x2 then 0 else 1))] Th M 0 0 := by
      exact m_ireturn dX11_reckon_85 rfl rfl ⟨rfl, _, rfl, h⟩
    refine m_icmp_le (tgt := 84) dX11_reckon_77 (by decide) (fun c1 => ?_) (fun c1 => ?_)
    · simp only [if_pos c1] at hJ
      refine m_iconst (v := 0) dX11_reckon_84 (by decide) ?_
      exact hJ
    · simp only [if_neg c1] at hJ
      refine m_iconst (v := 1) dX11_reckon_80 (by decide) ?_
      refine m_goto (tgt := 85) dX11_reckon_81 (by decide) ?_
      exact hJ
  rw [if_neg c6] at h
  refine m_tableOut (tgt := 86) dX11_reckon_1 (m_sw 2 8 (fun k h1 h2 => by have hk : k = 2 ∨ k = 3 ∨ k = 4 ∨ k = 5 ∨ k = 6 ∨ k = 7 ∨ k = 8 := (by omega); rcases hk with rfl | rfl | rfl | rfl | rfl | rfl | rfl <;> first | exact c0 | exact c1 | exact c2 | exact c3 | exact c4 | exact c5 | exact c6)) (by decide) ?_
  refine m_iload_n dX11_reckon_86 rfl 1 rfl ?_
  refine m_iload_n dX11_reckon_87 rfl 2 rfl ?_
  have hJ : m_W (d + 1) 0 0 yX11_reckon cX11_reckon 3 (some .int) (m_qi Th Q) 96 [(0, .int x0), (1, .int x1), (2, .int x2)] [.int ((if x1 = x2 then 1 else 0))] Th M 0 0 := by
    exact m_ireturn dX11_reckon_96 rfl rfl ⟨rfl, _, rfl, h⟩
  refine m_icmp_ne (tgt := 95) dX11_reckon_88 (by decide) (fun c1 => ?_) (fun c1 => ?_)
  · simp only [if_neg c1] at hJ
    refine m_iconst (v := 0) dX11_reckon_95 (by decide) ?_
    exact hJ
  · simp only [if_pos c1] at hJ
    refine m_iconst (v := 1) dX11_reckon_91 (by decide) ?_
    refine m_goto (tgt := 96) dX11_reckon_92 (by decide) ?_
    exact hJ
set_option maxHeartbeats 4000000 in
set_option maxRecDepth 100000 in
theorem h11_comesTo_16 {d : Nat} {Th : mT} {Q : Int32 → mM → Prop} {a0 : Nat} {x2 : Int32} {x3 : Int32} {x4 : Int32} {x5 : Int32} {M : mM} (h : if x2 ≤ x5 then (Th.2.2 a0 = some (.inl 11) ∧ (∃ r2 : Nat, M.2.2 a0 33 = some r2 ∧ (m_ok Th r2 .int 0 ∧ (Q (((M).1 r2 (Int32.toNatClampNeg 0))) M)))) else (Th.2.2 a0 = some (.inl 11) ∧ (∃ r6 : Nat, M.2.2 a0 28 = some r6 ∧ (m_ok Th r6 .int x5 ∧ (∀ xv9 : Int32, xv9 = (((M).1 r6 (Int32.toNatClampNeg x5)) / 1048576) → ∀ xv10 : Int32, xv10 = (((M).1 r6 (Int32.toNatClampNeg x5)) - ((M).1 r6 (Int32.toNatClampNeg x5)) / 1048576 * 1048576) → ∀ xv11 : Int32, xv11 = (x5 + 1) → if xv9 = 0 then (H11_comesTo_63 (d + 1) Th Q a0 x2 x3 x4 xv11 xv9 xv10 M) else (if xv9 = 1 then (H11_comesTo_63 (d + 1) Th Q a0 x2 x3 x4 xv11 xv9 xv10 M) else (if xv9 = 10 then (∃ r12 : Nat, M.2.2 a0 33 = some r12 ∧ (m_ok Th r12 .int ((x3 - 1)) ∧ (m_okw Th r12 .int ((x3 - 1)) ∧ (H11_comesTo_16 (d + 1) Th Q a0 x2 x3 x4 xv11 (m_ui M r12 (Int32.toNatClampNeg ((x3 - 1))) ((1 - ((M).1 r12 (Int32.toNatClampNeg ((x3 - 1))))))))))) else (if xv9 = 11 then (H11_comesTo_135 (d + 1) Th Q a0 x2 x3 x4 xv11 xv9 xv10 M) else (if xv9 = 12 then (H11_comesTo_135 (d + 1) Th Q a0 x2 x3 x4 xv11 xv9 xv10 M) else (∀ xv16 : Int32, xv16 = (x3 - 1) → if xv9 = 5 then (H11_comesTo_192 (d + 1) Th Q a0 x2 xv16 x4 xv11 xv9 M) else (if xv9 = 6 then (H11_comesTo_192 (d + 1) Th Q a0 x2 xv16 x4 xv11 xv9 M) else (H11_comesTo_203 (d + 1) Th Q a0 x2 xv16 x4 xv11 xv9 M)))))))))))) : H11_comesTo_16 (d + 1) Th Q a0 x2 x3 x4 x5 M := by
  show m_W (d + 1) 0 0 yX11_comesTo cX11_comesTo 8 (some .int) (m_qi Th Q) 16 [(0, .ref a0), (2, .int x2), (3, .int x3), (4, .int x4), (5, .int x5)] [] Th M 0 0
  refine m_iload dX11_comesTo_16 4 rfl ?_
  refine m_iload_n dX11_comesTo_18 rfl 1 rfl ?_
  refine m_icmp_ge (tgt := 233) dX11_comesTo_19 (by decide) (fun c1 => ?_) (fun c1 => ?_)
  · rw [if_pos c1] at h
    refine m_aload_n dX11_comesTo_233 rfl 0 rfl ?_
    obtain ⟨q1, h⟩ := h
    obtain ⟨r2, q3, h⟩ := h
    refine m_getr f_X11_65 rfl dX11_comesTo_234 q1 q3 ?_
    refine m_iconst (v := 0) dX11_comesTo_237 (by decide) ?_
    obtain ⟨q4, h⟩ := h
    refine m_iald dX11_comesTo_238 q4 ?_
    exact m_ireturn dX11_comesTo_239 rfl rfl ⟨rfl, _, rfl, h⟩
  · rw [if_neg c1] at h
    refine m_aload_n dX11_comesTo_22 rfl 0 rfl ?_
    obtain ⟨q5, h⟩ := h
    obtain ⟨r6, q7, h⟩ := h
    refine m_getr f_X11_50 rfl dX11_comesTo_23 q5 q7 ?_
    refine m_iload dX11_comesTo_26 4 rfl ?_
    obtain ⟨q8, h⟩ := h
    refine m_iald dX11_comesTo_28 q8 ?_
    refine m_ldc k_X11_205 dX11_comesTo_29 ?_
    refine m_idiv dX11_comesTo_31 (by decide) ?_
    obtain ⟨xv9, e_xv9⟩ : ∃ xv9 : Int32, xv9 = (((M).1 r6 (Int32.toNatClampNeg x5)) / 1048576) := ⟨_, rfl⟩
    have h := h xv9 e_xv9
    rw [← e_xv9]
    refine m_istore (lv' := [(6, .int xv9), (0, .ref a0), (2, .int x2), (3, .int x3), (4, .int x4), (5, .int x5)]) dX11_comesTo_32 (by decide) rfl ?_
    refine m_aload_n dX11_comesTo_34 rfl 1 rfl ?_
    refine m_getr f_X11_50 rfl dX11_comesTo_35 q5 q7 ?_
    refine m_iload dX11_comesTo_38 5 rfl ?_
    refine m_iald dX11_comesTo_40 q8 ?_
    refine m_ldc k_X11_205 dX11_comesTo_41 ?_
    refine m_irem dX11_comesTo_43 (by decide) ?_
    obtain ⟨xv10, e_xv10⟩ : ∃ xv10 : Int32, xv10 = (((M).1 r6 (Int32.toNatClampNeg x5)) - ((M).1 r6 (Int32.toNatClampNeg x5)) / 1048576 * 1048576) := ⟨_, rfl⟩
    have h := h xv10 e_xv10
    rw [← e_xv10]
    refine m_istore (lv' := [(7, .int xv10), (6, .int xv9), (0, .ref a0), (2, .int x2), (3, .int x3), (4, .int x4), (5, .int x5)]) dX11_comesTo_44 (by decide) rfl ?_
    refine m_iload dX11_comesTo_46 6 rfl ?_
    refine m_iconst (v := 1) dX11_comesTo_48 (by decide) ?_
    refine m_iadd dX11_comesTo_49 ?_
    obtain ⟨xv11, e_xv11⟩ : ∃ xv11 : Int32, xv11 = (x5 + 1) := ⟨_, rfl⟩
    have h := h xv11 e_xv11
    rw [← e_xv11]
    refine m_istore (lv' := [(5, .int xv11), (7, .int xv10), (6, .int xv9), (0, .ref a0), (2, .int x2), (3, .int x3), (4, .int x4)]) dX11_comesTo_50 (by decide) rfl ?_
    refine m_iload dX11_comesTo_52 2 rfl ?_
    refine m_if_eq (tgt := 63) dX11_comesTo_54 (by decide) (fun c1 => ?_) (fun c1 => ?_)
    · rw [if_pos c1] at h
      exact m_sub [3, 4, 5, 6, 0, 2, 1] rfl h
    · rw [if_neg c1] at h
      refine m_iload dX11_comesTo_57 2 rfl ?_
      refine m_iconst (v := 1) dX11_comesTo_59 (by decide) ?_
      refine m_icmp_ne (tgt := 93) dX11_comesTo_60 (by decide) (fun c1 => ?_) (fun c1 => ?_)
      · rw [if_neg c1] at h
        refine m_iload dX11_comesTo_93 2 rfl ?_
        refine m_bipush (v := 10) dX11_comesTo_95 (by decide) ?_
        refine m_icmp_ne (tgt := 121) dX11_comesTo_97 (by decide) (fun c1 => ?_) (fun c1 => ?_)
        · rw [if_neg c1] at h
          refine m_iload dX11_comesTo_121 2 rfl ?_
          refine m_bipush (v := 11) dX11_comesTo_123 (by decide) ?_
          refine m_icmp_eq (tgt := 135) dX11_comesTo_125 (by decide) (fun c1 => ?_) (fun c1 => ?_)
          · rw [if_pos c1] at h
            exact m_sub [3, 4, 5, 6, 0, 2, 1] rfl h
          · rw [if_neg c1] at h
            refine m_iload dX11_comesTo_128 2 rfl ?_
            refine m_bipush (v := 12) dX11_comesTo_130 (by decide) ?_
            refine m_icmp_ne (tgt := 175) dX11_comesTo_132 (by decide) (fun c1 => ?_) (fun c1 => ?_)
            · rw [if_neg c1] at h
              refine m_iload_n dX11_comesTo_175 rfl 5 rfl ?_
              refine m_iconst (v := 1) dX11_comesTo_176 (by decide) ?_
              refine m_isub dX11_comesTo_177 ?_
              obtain ⟨xv16, e_xv16⟩ : ∃ xv16 : Int32, xv16 = (x3 - 1) := ⟨_, rfl⟩
              have h := h xv16 e_xv16
              rw [← e_xv16]
              refine m_istore_n (lv' := [(3, .int xv16), (5, .int xv11), (7, .int xv10), (6, .int xv9), (0, .ref a0), (2, .int x2), (4, .int x4)]) dX11_comesTo_178 rfl (by decide) rfl ?_
              refine m_iload dX11_comesTo_179 3 rfl ?_
              refine m_iconst (v := 5) dX11_comesTo_181 (by decide) ?_
              refine m_icmp_eq (tgt := 192) dX11_comesTo_182 (by decide) (fun c1 => ?_) (fun c1 => ?_)
              · rw [if_pos c1] at h
                exact m_sub [4, 5, 0, 6, 1, 3] rfl h
              · rw [if_neg c1] at h
                refine m_iload dX11_comesTo_185 3 rfl ?_
                refine m_bipush (v := 6) dX11_comesTo_187 (by decide) ?_
                refine m_icmp_ne (tgt := 203) dX11_comesTo_189 (by decide) (fun c1 => ?_) (fun c1 => ?_)
                · rw [if_neg c1] at h
                  exact m_sub [4, 5, 0, 6, 1, 3] rfl h
                · rw [if_pos c1] at h
                  exact m_sub [4, 5, 0, 6, 1, 3] rfl h
            · rw [if_pos c1] at h
              exact m_sub [3, 4, 5, 6, 0, 2, 1] rfl h
        · rw [if_pos c1] at h
          refine m_aload_n dX11_comesTo_100 rfl 3 rfl ?_
          obtain ⟨r12, q13, h⟩ := h
          refine m_getr f_X11_65 rfl dX11_comesTo_101 q5 q13 ?_
          refine m_iload_n dX11_comesTo_104 rfl 5 rfl ?_
          refine m_iconst (v := 1) dX11_comesTo_105 (by decide) ?_
          refine m_isub dX11_comesTo_106 ?_
          refine m_iconst (v := 1) dX11_comesTo_107 (by decide) ?_
          refine m_aload_n dX11_comesTo_108 rfl 3 rfl ?_
          refine m_getr f_X11_65 rfl dX11_comesTo_109 q5 q13 ?_
          refine m_iload_n dX11_comesTo_112 rfl 5 rfl ?_
          refine m_iconst (v := 1) dX11_comesTo_113 (by decide) ?_
          refine m_isub dX11_comesTo_114 ?_
          obtain ⟨q14, h⟩ := h
          refine m_iald dX11_comesTo_115 q14 ?_
          refine m_isub dX11_comesTo_116 ?_
          obtain ⟨q15, h⟩ := h
          refine m_iast dX11_comesTo_117 q15 ?_
          refine m_goto (tgt := 230) dX11_comesTo_118 (by decide) ?_
          refine m_goto (tgt := 16) dX11_comesTo_230 (by decide) ?_
          exact m_sub [3, 4, 5, 6, 0] rfl h
      · rw [if_pos c1] at h
        exact m_sub [3, 4, 5, 6, 0, 2, 1] rfl h
set_option maxHeartbeats 4000000 in
set_option maxRecDepth 100000 in
theorem h11_comesTo_63 {d : Nat} {Th : mT} {Q : Int32 → mM → Prop} {a0 : Nat} {x2 : Int32} {x3 : Int32} {x4 : Int32} {x5 : Int32} {x6 : Int32} {x7 : Int32} {M : mM} (h : Th.2.2 a0 = some (.inl 11) ∧ (∃ r2 : Nat, M.2.2 a0 33 = some r2 ∧ (if x6 = 0 then (H11_comesTo_85 (d + 1) Th Q a0 x2 x3 x4 x5 x7 x3 r2 M) else (∃ r4 : Nat, M.2.2 a0 34 = some r4 ∧ (m_ok Th r4 .int x7 ∧ (H11_comesTo_85 (d + 1) Th Q a0 x2 x3 x4 x5 (((M).1 r4 (Int32.toNatClampNeg x7))) x3 r2 M)))))) : H11_comesTo_63 (d + 1) Th Q a0 x2 x3 x4 x5 x6 x7 M := by
  show m_W (d + 1) 0 0 yX11_comesTo cX11_comesTo 8 (some .int) (m_qi Th Q) 63 [(0, .ref a0), (2, .int x2), (3, .int x3), (4, .int x4), (5, .int x5), (6, .int x6), (7, .int x7)] [] Th M 0 0
  refine m_aload_n dX11_comesTo_63 rfl 0 rfl ?_
  obtain ⟨q1, h⟩ := h
  obtain ⟨r2, q3, h⟩ := h
  refine m_getr f_X11_65 rfl dX11_comesTo_64 q1 q3 ?_
  refine m_iload_n dX11_comesTo_67 rfl 2 rfl ?_
  refine m_iload dX11_comesTo_68 5 rfl ?_
  refine m_if_ne (tgt := 78) dX11_comesTo_70 (by decide) (fun c1 => ?_) (fun c1 => ?_)
  · rw [if_neg c1] at h
    refine m_aload_n dX11_comesTo_78 rfl 0 rfl ?_
    obtain ⟨r4, q5, h⟩ := h
    refine m_getr f_X11_68 rfl dX11_comesTo_79 q1 q5 ?_
    refine m_iload dX11_comesTo_82 6 rfl ?_
    obtain ⟨q6, h⟩ := h
    refine m_iald dX11_comesTo_84 q6 ?_
    exact m_sub [0, 1, 2, 3, 4] rfl h
  · rw [if_pos c1] at h
    refine m_iload dX11_comesTo_73 6 rfl ?_
    refine m_goto (tgt := 85) dX11_comesTo_75 (by decide) ?_
    exact m_sub [0, 1, 2, 3, 4] rfl h
set_option maxHeartbeats 4000000 in
set_option maxRecDepth 100000 in
theorem h11_comesTo_85 {d : Nat} {Th : mT} {Q : Int32 → mM → Prop} {a0 : Nat} {x2 : Int32} {x3 : Int32} {x4 : Int32} {x5 : Int32} {s0 : Int32} {s1 : Int32} {s2 : Nat} {M : mM} (h : m_okw Th s2 .int s1 ∧ (∀ xv2 : Int32, xv2 = (x3 + 1) → H11_comesTo_16 (d + 1) Th Q a0 x2 xv2 x4 x5 (m_ui M s2 (Int32.toNatClampNeg s1) s0))) : H11_comesTo_85 (d + 1) Th Q a0 x2 x3 x4 x5 s0 s1 s2 M := by
  show m_W (d + 1) 0 0 yX11_comesTo cX11_comesTo 8 (some .int) (m_qi Th Q) 85 [(0, .ref a0), (2, .int x2), (3, .int x3), (4, .int x4), (5, .int x5)] [.int s0, .int s1, .ref s2] Th M 0 0
  obtain ⟨q1, h⟩ := h
  refine m_iast dX11_comesTo_85 q1 ?_
  refine m_iload_n dX11_comesTo_86 rfl 2 rfl ?_
  refine m_iconst (v := 1) dX11_comesTo_87 (by decide) ?_
  refine m_iadd dX11_comesTo_88 ?_
  obtain ⟨xv2, e_xv2⟩ : ∃ xv2 : Int32, xv2 = (x3 + 1) := ⟨_, rfl⟩
  have h := h xv2 e_xv2
  rw [← e_xv2]
  refine m_istore_n (lv' := [(3, .int xv2), (0, .ref a0), (2, .int x2), (4, .int x4), (5, .int x5)]) dX11_comesTo_89 rfl (by decide) rfl ?_
  refine m_goto (tgt := 230) dX11_comesTo_90 (by decide) ?_
  refine m_goto (tgt := 16) dX11_comesTo_230 (by decide) ?_
  exact m_sub [1, 2, 0, 3, 4] rfl h
set_option maxHeartbeats 4000000 in
set_option maxRecDepth 100000 in
theorem h11_comesTo_135 {d : Nat} {Th : mT} {Q : Int32 → mM → Prop} {a0 : Nat} {x2 : Int32} {x3 : Int32} {x4 : Int32} {x5 : Int32} {x6 : Int32} {x7 : Int32} {M : mM} (h : Th.2.2 a0 = some (.inl 11) ∧ (∃ r2 : Nat, M.2.2 a0 33 = some r2 ∧ (m_ok Th r2 .int ((x3 - 1)) ∧ (if ((M).1 r2 (Int32.toNatClampNeg ((x3 - 1)))) = (if x6 = 12 then 1 else 0) then (∀ xv5 : Int32, xv5 = (x4 + x7) → H11_comesTo_16 (d + 1) Th Q a0 x2 x3 x4 xv5 M) else (∀ xv6 : Int32, xv6 = (x3 - 1) → H11_comesTo_16 (d + 1) Th Q a0 x2 xv6 x4 x5 M))))) : H11_comesTo_135 (d + 1) Th Q a0 x2 x3 x4 x5 x6 x7 M := by
  show m_W (d + 1) 0 0 yX11_comesTo cX11_comesTo 8 (some .int) (m_qi Th Q) 135 [(0, .ref a0), (2, .int x2), (3, .int x3), (4, .int x4), (5, .int x5), (6, .int x6), (7, .int x7)] [] Th M 0 0
  refine m_aload_n dX11_comesTo_135 rfl 0 rfl ?_
  obtain ⟨q1, h⟩ := h
  obtain ⟨r2, q3, h⟩ := h
  refine m_getr f_X11_65 rfl dX11_comesTo_136 q1 q3 ?_
  refine m_iload_n dX11_comesTo_139 rfl 2 rfl ?_
  refine m_iconst (v := 1) dX11_comesTo_140 (by decide) ?_
  refine m_isub dX11_comesTo_141 ?_
  obtain ⟨q4, h⟩ := h
  refine m_iald dX11_comesTo_142 q4 ?_
  refine m_iload dX11_comesTo_143 5 rfl ?_
  refine m_bipush (v := 12) dX11_comesTo_145 (by decide) ?_
  have hJ : m_W (d + 1) 0 0 yX11_comesTo cX11_comesTo 8 (some .int) (m_qi Th Q) 155 [(0, .ref a0), (2, .int x2), (3, .int x3), (4, .int x4), (5, .int x5), (6, .int x6), (7, .int x7)] [.int ((if x6 = 12 then 1 else 0)), .int (((M).1 r2 (Int32.toNatClampNeg ((x3 - 1)))))] Th M 0 0 := by
    refine m_icmp_ne (tgt := 168) dX11_comesTo_155 (by decide) (fun c1 => ?_) (fun c1 => ?_)
    · rw [if_neg c1] at h
      refine m_iload_n dX11_comesTo_168 rfl 2 rfl ?_
      refine m_iconst (v := 1) dX11_comesTo_169 (by decide) ?_
      refine m_isub dX11_comesTo_170 ?_
      obtain ⟨xv6, e_xv6⟩ : ∃ xv6 : Int32, xv6 = (x3 - 1) := ⟨_, rfl⟩
      have h := h xv6 e_xv6
      rw [← e_xv6]
      refine m_istore_n (lv' := [(3, .int xv6), (0, .ref a0), (2, .int x2), (4, .int x4), (5, .int x5), (6, .int x6), (7, .int x7)]) dX11_comesTo_171 rfl (by decide) rfl ?_
      refine m_goto (tgt := 230) dX11_comesTo_172 (by decide) ?_
      refine m_goto (tgt := 16) dX11_comesTo_230 (by decide) ?_
      exact m_sub [1, 2, 0, 3, 4] rfl h
    · rw [if_pos c1] at h
      refine m_iload dX11_comesTo_158 3 rfl ?_
      refine m_iload dX11_comesTo_160 6 rfl ?_
      refine m_iadd dX11_comesTo_162 ?_
      obtain ⟨xv5, e_xv5⟩ : ∃ xv5 : Int32, xv5 = (x4 + x7) := ⟨_, rfl⟩
      have h := h xv5 e_xv5
      rw [← e_xv5]
      refine m_istore (lv' := [(5, .int xv5), (0, .ref a0), (2, .int x2), (3, .int x3), (4, .int x4), (6, .int x6), (7, .int x7)]) dX11_comesTo_163 (by decide) rfl ?_
      refine m_goto (tgt := 230) dX11_comesTo_165 (by decide) ?_
      refine m_goto (tgt := 16) dX11_comesTo_230 (by decide) ?_
      exact m_sub [1, 2, 3, 4, 0] rfl h
  refine m_icmp_ne (tgt := 154) dX11_comesTo_147 (by decide) (fun c1 => ?_) (fun c1 => ?_)
  · simp only [if_neg c1] at hJ
    refine m_iconst (v := 0) dX11_comesTo_154 (by decide) ?_
    exact hJ
  · simp only [if_pos c1] at hJ
    refine m_iconst (v := 1) dX11_comesTo_150 (by decide) ?_
    refine m_goto (tgt := 155) dX11_comesTo_151 (by decide) ?_
    exact hJ
set_option maxHeartbeats 4000000 in
set_option maxRecDepth 100000 in
theorem h11_comesTo_192 {d : Nat} {Th : mT} {Q : Int32 → mM → Prop} {a0 : Nat} {x2 : Int32} {x3 : Int32} {x4 : Int32} {x5 : Int32} {x6 : Int32} {M : mM} (h : Th.2.2 a0 = some (.inl 11) ∧ (∃ r2 : Nat, M.2.2 a0 33 = some r2 ∧ (m_ok Th r2 .int x3 ∧ (if ((M).1 r2 (Int32.toNatClampNeg x3)) = 0 then (Q 0 M) else (H11_comesTo_203 (d + 1) Th Q a0 x2 x3 x4 x5 x6 M))))) : H11_comesTo_192 (d + 1) Th Q a0 x2 x3 x4 x5 x6 M := by
  show m_W (d + 1) 0 0 yX11_comesTo cX11_comesTo 8 (some .int) (m_qi Th Q) 192 [(0, .ref a0), (2, .int x2), (3, .int x3), (4, .int x4), (5, .int x5), (6, .int x6)] [] Th M 0 0
  refine m_aload_n dX11_comesTo_192 rfl 0 rfl ?_
  obtain ⟨q1, h⟩ := h
  obtain ⟨r2, q3, h⟩ := h
  refine m_getr f_X11_65 rfl dX11_comesTo_193 q1 q3 ?_
  refine m_iload_n dX11_comesTo_196 rfl 2 rfl ?_
  obtain ⟨q4, h⟩ := h
  refine m_iald dX11_comesTo_197 q4 ?_
  refine m_if_ne (tgt := 203) dX11_comesTo_198 (by decide) (fun c1 => ?_) (fun c1 => ?_)
  · rw [if_neg c1] at h
    exact h
  · rw [if_pos c1] at h
    refine m_iconst (v := 0) dX11_comesTo_201 (by decide) ?_
    exact m_ireturn dX11_comesTo_202 rfl rfl ⟨rfl, _, rfl, h⟩
set_option maxHeartbeats 4000000 in
set_option maxRecDepth 100000 in
theorem h11_comesTo_203 {d : Nat} {Th : mT} {Q : Int32 → mM → Prop} {a0 : Nat} {x2 : Int32} {x3 : Int32} {x4 : Int32} {x5 : Int32} {x6 : Int32} {M : mM} (h : Th.2.2 a0 = some (.inl 11) ∧ (∃ r2 : Nat, M.2.2 a0 33 = some r2 ∧ (m_ok Th r2 .int ((x3 - 1)) ∧ (m_ok Th r2 .int x3 ∧ (P11_reckon d Th x6 (((M).1 r2 (Int32.toNatClampNeg ((x3 - 1))))) (((M).1 r2 (Int32.toNatClampNeg x3))) M (fun (v7 : Int32) (M6 : mM) => m_okw Th r2 .int ((x3 - 1)) ∧ (H11_comesTo_16 (d + 1) Th Q a0 x2 x3 x4 x5 (m_ui M6 r2 (Int32.toNatClampNeg ((x3 - 1))) v7)))))))) : H11_comesTo_203 (d + 1) Th Q a0 x2 x3 x4 x5 x6 M := by
  show m_W (d + 1) 0 0 yX11_comesTo cX11_comesTo 8 (some .int) (m_qi Th Q) 203 [(0, .ref a0), (2, .int x2), (3, .int x3), (4, .int x4), (5, .int x5), (6, .int x6)] [] Th M 0 0
  refine m_aload_n dX11_comesTo_203 rfl 0 rfl ?_
  obtain ⟨q1, h⟩ := h
  obtain ⟨r2, q3, h⟩ := h
  refine m_getr f_X11_65 rfl dX11_comesTo_204 q1 q3 ?_
  refine m_iload_n dX11_comesTo_207 rfl 2 rfl ?_
  refine m_iconst (v := 1) dX11_comesTo_208 (by decide) ?_
  refine m_isub dX11_comesTo_209 ?_
  refine m_iload dX11_comesTo_210 5 rfl ?_
  refine m_aload_n dX11_comesTo_212 rfl 0 rfl ?_
  refine m_getr f_X11_65 rfl dX11_comesTo_213 q1 q3 ?_
  refine m_iload_n dX11_comesTo_216 rfl 2 rfl ?_
  refine m_iconst (v := 1) dX11_comesTo_217 (by decide) ?_
  refine m_isub dX11_comesTo_218 ?_
  obtain ⟨q4, h⟩ := h
  refine m_iald dX11_comesTo_219 q4 ?_
  refine m_aload_n dX11_comesTo_220 rfl 0 rfl ?_
  refine m_getr f_X11_65 rfl dX11_comesTo_221 q1 q3 ?_
  refine m_iload_n dX11_comesTo_224 rfl 2 rfl ?_
  obtain ⟨q5, h⟩ := h
  refine m_iald dX11_comesTo_225 q5 ?_
  refine m_invS (As := [.int x6, .int (((M).1 r2 (Int32.toNatClampNeg ((x3 - 1))))), .int (((M).1 r2 (Int32.toNatClampNeg x3)))]) (d' := d) (mc' := 0) (ms' := 0) (rest := [.int ((x3 - 1)), .ref r2]) i_11_reckon s_11_reckon l_X11_272 dX11_comesTo_226 rfl rfl (Nat.le_of_ble_eq_true rfl) (Nat.le_refl _) ⟨Nat.le_refl _, Nat.le_refl _⟩ (m_Ci h (fun v7 M6 h => ?_))
  show m_W (d + 1) 0 0 yX11_comesTo cX11_comesTo 8 (some .int) (m_qi Th Q) 229 [(0, .ref a0), (2, .int x2), (3, .int x3), (4, .int x4), (5, .int x5), (6, .int x6)] [.int v7, .int ((x3 - 1)), .ref r2] Th M6 0 0
  obtain ⟨q8, h⟩ := h
  refine m_iast dX11_comesTo_229 q8 ?_
  refine m_goto (tgt := 16) dX11_comesTo_230 (by decide) ?_
  exact m_sub [0, 1, 2, 3, 4] rfl h
set_option maxHeartbeats 4000000 in
set_option maxRecDepth 100000 in
theorem e11_comesTo {d : Nat} {Th : mT} {Q : Int32 → mM → Prop} {a0 : Nat} {x1 : Int32} {x2 : Int32} {M : mM} (h : ∀ xv1 : Int32, xv1 = (220 * (x1 / 220)) → H11_comesTo_16 (d + 1) Th Q a0 x2 0 xv1 x1 M) : P11_comesTo (d + 1) Th a0 x1 x2 M Q := by
  refine m_C.of (by decide +kernel) (Nat.le_of_ble_eq_true rfl) ?_
  show m_W (d + 1) 0 0 yX11_comesTo cX11_comesTo 8 (some .int) (m_qi Th Q) 0 [(0, .ref a0), (1, .int x1), (2, .int x2)] [] Th M 0 0
  refine m_iconst (v := 0) dX11_comesTo_0 (by decide) ?_
  refine m_istore_n (lv' := [(3, .int 0), (0, .ref a0), (1, .int x1), (2, .int x2)]) dX11_comesTo_1 rfl (by decide) rfl ?_
  refine m_sipush (v := 220) dX11_comesTo_2 (by decide) ?_
  refine m_iload_n dX11_comesTo_5 rfl 2 rfl ?_
  refine m_sipush (v := 220) dX11_comesTo_6 (by decide) ?_
  refine m_idiv dX11_comesTo_9 (by decide) ?_
  refine m_imul dX11_comesTo_10 ?_
  obtain ⟨xv1, e_xv1⟩ : ∃ xv1 : Int32, xv1 = (220 * (x1 / 220)) := ⟨_, rfl⟩
  have h := h xv1 e_xv1
  rw [← e_xv1]
  refine m_istore (lv' := [(4, .int xv1), (3, .int 0), (0, .ref a0), (1, .int x1), (2, .int x2)]) dX11_comesTo_11 (by decide) rfl ?_
  refine m_iload_n dX11_comesTo_13 rfl 3 rfl ?_
  refine m_istore (lv' := [(5, .int x1), (4, .int xv1), (3, .int 0), (0, .ref a0), (1, .int x1), (2, .int x2)]) dX11_comesTo_14 (by decide) rfl ?_
  exact m_sub [3, 5, 2, 1, 0] rfl h
set_option maxHeartbeats 4000000 in
set_option maxRecDepth 100000 in
theorem h11_byLaw_2 {d : Nat} {Th : mT} {Q : Int32 → mM → Prop} {a0 : Nat} {x1 : Int32} {x2 : Int32} {x3 : Int32} {M : mM} (h : Th.2.2 a0 = some (.inl 11) ∧ (if ((M).1 a0 21) ≤ x3 then (Q 0 M) else (∃ r2 : Nat, M.2.2 a0 29 = some r2 ∧ (m_ok Th r2 .int x3 ∧ (if ((M).1 r2 (Int32.toNatClampNeg x3)) = x1 then (∃ r5 : Nat, M.2.2 a0 31 = some r5 ∧ (m_ok Th r5 .int x3 ∧ (∃ r8 : Nat, M.2.2 a0 32 = some r8 ∧ (m_ok Th r8 .int x3 ∧ (P11_comesTo d Th a0 (((M).1 r5 (Int32.toNatClampNeg x3))) (((M).1 r8 (Int32.toNatClampNeg x3))) M (fun (v12 : Int32) (M11 : mM) => if v12 = 1 then (∃ r13 : Nat, M11.2.2 a0 30 = some r13 ∧ (m_ok Th r13 .int x3 ∧ (∃ r16 : Nat, M11.2.2 a0 31 = some r16 ∧ (m_ok Th r16 .int x3 ∧ (P11_comesTo d Th a0 (((M11).1 r13 (Int32.toNatClampNeg x3))) (((M11).1 r16 (Int32.toNatClampNeg x3))) M11 (fun (v20 : Int32) (M19 : mM) => Q ((if 0 ≤ v20 then (if v20 ≤ x2 then v20 else x2) else 0)) M19)))))) else (H11_byLaw_2 (d + 1) Th Q a0 x1 x2 (x3 + 1) M11))))))) else (H11_byLaw_2 (d + 1) Th Q a0 x1 x2 (x3 + 1) M)))))) : H11_byLaw_2 (d + 1) Th Q a0 x1 x2 x3 M := by
  show m_W (d + 1) 0 0 yX11_byLaw cX11_byLaw 5 (some .int) (m_qi Th Q) 2 [(0, .ref a0), (1, .int x1), (2, .int x2), (3, .int x3)] [] Th M 0 0
  refine m_iload_n dX11_byLaw_2 rfl 3 rfl ?_
  refine m_aload_n dX11_byLaw_3 rfl 0 rfl ?_
  obtain ⟨q1, h⟩ := h
  refine m_geti f_X11_269 rfl dX11_byLaw_4 q1 ?_
  refine m_icmp_ge (tgt := 89) dX11_byLaw_7 (by decide) (fun c1 => ?_) (fun c1 => ?_)
  · rw [if_pos c1] at h
    refine m_iconst (v := 0) dX11_byLaw_89 (by decide) ?_
    exact m_ireturn dX11_byLaw_90 rfl rfl ⟨rfl, _, rfl, h⟩
  · rw [if_neg c1] at h
    refine m_aload_n dX11_byLaw_10 rfl 0 rfl ?_
    obtain ⟨r2, q3, h⟩ := h
    refine m_getr f_X11_53 rfl dX11_byLaw_11 q1 q3 ?_
    refine m_iload_n dX11_byLaw_14 rfl 3 rfl ?_
    obtain ⟨q4, h⟩ := h
    refine m_iald dX11_byLaw_15 q4 ?_
    refine m_iload_n dX11_byLaw_16 rfl 1 rfl ?_
    refine m_icmp_ne (tgt := 83) dX11_byLaw_17 (by decide) (fun c1 => ?_) (fun c1 => ?_)
    · rw [if_neg c1] at h
      refine m_iinc (v := x3 + 1) (lv' := [(3, .int (x3 + 1)), (0, .ref a0), (1, .int x1), (2, .int x2)]) dX11_byLaw_83 3 rfl rfl (by decide) rfl ?_
      refine m_goto (tgt := 2) dX11_byLaw_86 (by decide) ?_
      exact m_sub [1, 2, 3, 0] rfl h
    · rw [if_pos c1] at h
      refine m_aload_n dX11_byLaw_20 rfl 0 rfl ?_
      refine m_aload_n dX11_byLaw_21 rfl 0 rfl ?_
      obtain ⟨r5, q6, h⟩ := h
      refine m_getr f_X11_59 rfl dX11_byLaw_22 q1 q6 ?_
      refine m_iload_n dX11_byLaw_25 rfl 3 rfl ?_
      obtain ⟨q7, h⟩ := h
      refine m_iald dX11_byLaw_26 q7 ?_
      refine m_aload_n dX11_byLaw_27 rfl 0 rfl ?_
      obtain ⟨r8, q9, h⟩ := h
      refine m_getr f_X11_62 rfl dX11_byLaw_28 q1 q9 ?_
      refine m_iload_n dX11_byLaw_31 rfl 3 rfl ?_
      obtain ⟨q10, h⟩ := h
      refine m_iald dX11_byLaw_32 q10 ?_
      refine m_invV (ci := 11) (As := [.int (((M).1 r5 (Int32.toNatClampNeg x3))), .int (((M).1 r8 (Int32.toNatClampNeg x3)))]) (d' := d) (mc' := 0) (ms' := 0) (rest := []) i_11_comesTo v_11_comesTo t_11_comesTo l_X11_276 ⟨_, _, rfl⟩ dX11_byLaw_33 rfl rfl q1 (Nat.le_of_ble_eq_true rfl) (Nat.le_refl _) ⟨Nat.le_refl _, Nat.le_refl _⟩ (m_Ci h (fun v12 M11 h => ?_))
      show m_W (d + 1) 0 0 yX11_byLaw cX11_byLaw 5 (some .int) (m_qi Th Q) 36 [(0, .ref a0), (1, .int x1), (2, .int x2), (3, .int x3)] [.int v12] Th M11 0 0
      refine m_iconst (v := 1) dX11_byLaw_36 (by decide) ?_
      refine m_icmp_eq (tgt := 43) dX11_byLaw_37 (by decide) (fun c1 => ?_) (fun c1 => ?_)
      · rw [if_pos c1] at h
        refine m_aload_n dX11_byLaw_43 rfl 0 rfl ?_
        refine m_aload_n dX11_byLaw_44 rfl 0 rfl ?_
        obtain ⟨r13, q14, h⟩ := h
        refine m_getr f_X11_56 rfl dX11_byLaw_45 q1 q14 ?_
        refine m_iload_n dX11_byLaw_48 rfl 3 rfl ?_
        obtain ⟨q15, h⟩ := h
        refine m_iald dX11_byLaw_49 q15 ?_
        refine m_aload_n dX11_byLaw_50 rfl 0 rfl ?_
        obtain ⟨r16, q17, h⟩ := h
        refine m_getr f_X11_59 rfl dX11_byLaw_51 q1 q17 ?_
        refine m_iload_n dX11_byLaw_54 rfl 3 rfl ?_
        obtain ⟨q18, h⟩ := h
        refine m_iald dX11_byLaw_55 q18 ?_
        refine m_invV (ci := 11) (As := [.int (((M11).1 r13 (Int32.toNatClampNeg x3))), .int (((M11).1 r16 (Int32.toNatClampNeg x3)))]) (d' := d) (mc' := 0) (ms' := 0) (rest := []) i_11_comesTo v_11_comesTo t_11_comesTo l_X11_276 ⟨_, _, rfl⟩ dX11_byLaw_56 rfl rfl q1 (Nat.le_of_ble_eq_true rfl) (Nat.le_refl _) ⟨Nat.le_refl _, Nat.le_refl _⟩ (m_Ci h (fun v20 M19 h => ?_))
        show m_W (d + 1) 0 0 yX11_byLaw cX11_byLaw 5 (some .int) (m_qi Th Q) 59 [(0, .ref a0), (1, .int x1), (2, .int x2), (3, .int x3)] [.int v20] Th M19 0 0
        refine m_istore (lv' := [(4, .int v20), (0, .ref a0), (1, .int x1), (2, .int x2), (3, .int x3)]) dX11_byLaw_59 (by decide) rfl ?_
        refine m_iload dX11_byLaw_61 0 rfl ?_
        have hJ : m_W (d + 1) 0 0 yX11_byLaw cX11_byLaw 5 (some .int) (m_qi Th Q) 82 [(4, .int v20), (0, .ref a0), (1, .int x1), (2, .int x2), (3, .int x3)] [.int ((if 0 ≤ v20 then (if v20 ≤ x2 then v20 else x2) else 0))] Th M19 0 0 := by
          exact m_ireturn dX11_byLaw_82 rfl rfl ⟨rfl, _, rfl, h⟩
        refine m_if_ge (tgt := 70) dX11_byLaw_63 (by decide) (fun c1 => ?_) (fun c1 => ?_)
        · simp only [if_pos c1] at hJ
          refine m_iload dX11_byLaw_70 0 rfl ?_
          refine m_iload_n dX11_byLaw_72 rfl 3 rfl ?_
          refine m_icmp_le (tgt := 80) dX11_byLaw_73 (by decide) (fun c2 => ?_) (fun c2 => ?_)
          · simp only [if_pos c2] at hJ
            refine m_iload dX11_byLaw_80 0 rfl ?_
            exact hJ
          · simp only [if_neg c2] at hJ
            refine m_iload_n dX11_byLaw_76 rfl 3 rfl ?_
            refine m_goto (tgt := 82) dX11_byLaw_77 (by decide) ?_
            exact hJ
        · simp only [if_neg c1] at hJ
          refine m_iconst (v := 0) dX11_byLaw_66 (by decide) ?_
          refine m_goto (tgt := 82) dX11_byLaw_67 (by decide) ?_
          exact hJ
      · rw [if_neg c1] at h
        refine m_goto (tgt := 83) dX11_byLaw_40 (by decide) ?_
        refine m_iinc (v := x3 + 1) (lv' := [(3, .int (x3 + 1)), (0, .ref a0), (1, .int x1), (2, .int x2)]) dX11_byLaw_83 3 rfl rfl (by decide) rfl ?_
        refine m_goto (tgt := 2) dX11_byLaw_86 (by decide) ?_
        exact m_sub [1, 2, 3, 0] rfl h
set_option maxHeartbeats 4000000 in
set_option maxRecDepth 100000 in
theorem e11_byLaw {d : Nat} {Th : mT} {Q : Int32 → mM → Prop} {a0 : Nat} {x1 : Int32} {x2 : Int32} {M : mM} (h : H11_byLaw_2 (d + 1) Th Q a0 x1 x2 0 M) : P11_byLaw (d + 1) Th a0 x1 x2 M Q := by
  refine m_C.of (by decide +kernel) (Nat.le_of_ble_eq_true rfl) ?_
  show m_W (d + 1) 0 0 yX11_byLaw cX11_byLaw 5 (some .int) (m_qi Th Q) 0 [(0, .ref a0), (1, .int x1), (2, .int x2)] [] Th M 0 0
  refine m_iconst (v := 0) dX11_byLaw_0 (by decide) ?_
  refine m_istore_n (lv' := [(3, .int 0), (0, .ref a0), (1, .int x1), (2, .int x2)]) dX11_byLaw_1 rfl (by decide) rfl ?_
  exact m_sub [1, 2, 3, 0] rfl h
set_option maxHeartbeats 4000000 in
set_option maxRecDepth 100000 in
theorem e11_thinks {d : Nat} {Th : mT} {Q : mM → Prop} {a0 : Nat} {x1 : Int32} {x2 : Int32} {x3 : Int32} {x4 : Int32} {M : mM} (h : Th.2.2 a0 = some (.inl 11) ∧ (∃ r2 : Nat, M.2.2 a0 34 = some r2 ∧ (m_okw Th r2 .int 0 ∧ (∃ r5 : Nat, M.2.2 a0 5 = some r5 ∧ (m_ok Th r5 .int x3 ∧ (∀ M8 : mM, M8 = m_ui M r2 (Int32.toNatClampNeg 0) x2 → m_okw Th r2 .int 1 ∧ (m_okw Th r2 .int 2 ∧ (∀ M11 : mM, M11 = m_ui M8 r2 (Int32.toNatClampNeg 1) (((M8).1 r5 (Int32.toNatClampNeg x3))) → m_okw Th r2 .int 3 ∧ (∀ M13 : mM, M13 = m_ui M11 r2 (Int32.toNatClampNeg 2) x4 → m_okw Th r2 .int 4 ∧ (∀ M15 : mM, M15 = m_ui M13 r2 (Int32.toNatClampNeg 3) x3 → ∀ M16 : mM, M16 = m_ui M15 r2 (Int32.toNatClampNeg 4) x1 → m_okw Th r2 .int 5 ∧ (∀ M18 : mM, M18 = m_ui M16 r2 (Int32.toNatClampNeg 5) (((M16).1 a0 0)) → m_okw Th r2 .int 6 ∧ (∃ r20 : Nat, M.2.2 a0 9 = some r20 ∧ (m_ok Th r20 .int x1 ∧ (∀ M23 : mM, M23 = m_ui M18 r2 (Int32.toNatClampNeg 6) (((M18).1 a0 3)) → m_okw Th r2 .int 7 ∧ (P11_byLaw d Th a0 115 8 (m_ui M23 r2 (Int32.toNatClampNeg 7) (((M23).1 r20 (Int32.toNatClampNeg x1)))) (fun (v26 : Int32) (M25 : mM) => ∀ M27 : mM, M27 = m_ui M25 a0 35 v26 → P11_byLaw d Th a0 101 ((8 - ((M27).1 a0 35))) M27 (fun (v29 : Int32) (M28 : mM) => Q (m_ui M28 a0 36 v29)))))))))))))))))) : P11_thinks (d + 1) Th a0 x1 x2 x3 x4 M Q := by
  refine m_C.of (by decide +kernel) (Nat.le_of_ble_eq_true rfl) ?_
  show m_W (d + 1) 0 0 yX11_thinks cX11_thinks 5 none (m_qv Th Q) 0 [(0, .ref a0), (1, .int x1), (2, .int x2), (3, .int x3), (4, .int x4)] [] Th M 0 0
  refine m_aload_n dX11_thinks_0 rfl 0 rfl ?_
  obtain ⟨q1, h⟩ := h
  obtain ⟨r2, q3, h⟩ := h
  refine m_getr f_X11_68 rfl dX11_thinks_1 q1 q3 ?_
  refine m_iconst (v := 0) dX11_thinks_4 (by decide) ?_
  refine m_iload_n dX11_thinks_5 rfl 2 rfl ?_
  obtain ⟨q4, h⟩ := h
  refine m_iast dX11_thinks_6 q4 ?_
  refine m_aload_n dX11_thinks_7 rfl 0 rfl ?_
  refine m_getr f_X11_68 rfl dX11_thinks_8 q1 q3 ?_
  refine m_iconst (v := 1) dX11_thinks_11 (by decide) ?_
  refine m_aload_n dX11_thinks_12 rfl 0 rfl ?_
  obtain ⟨r5, q6, h⟩ := h
  refine m_getr f_X11_7 rfl dX11_thinks_13 q1 q6 ?_
  refine m_iload_n dX11_thinks_16 rfl 3 rfl ?_
  obtain ⟨q7, h⟩ := h
  obtain ⟨M8, e_M8⟩ : ∃ M8 : mM, M8 = m_ui M r2 (Int32.toNatClampNeg 0) x2 := ⟨_, rfl⟩
  have h := h M8 e_M8
  rw [← e_M8]
  refine m_iald dX11_thinks_17 q7 ?_
  obtain ⟨q9, h⟩ := h
  refine m_iast dX11_thinks_18 q9 ?_
  refine m_aload_n dX11_thinks_19 rfl 0 rfl ?_
  refine m_getr f_X11_68 rfl dX11_thinks_20 q1 (by rw [e_M8]; exact q3) ?_
  refine m_iconst (v := 2) dX11_thinks_23 (by decide) ?_
  refine m_iload dX11_thinks_24 4 rfl ?_
  obtain ⟨q10, h⟩ := h
  obtain ⟨M11, e_M11⟩ : ∃ M11 : mM, M11 = m_ui M8 r2 (Int32.toNatClampNeg 1) (((M8).1 r5 (Int32.toNatClampNeg x3))) := ⟨_, rfl⟩
  have h := h M11 e_M11
  rw [← e_M11]
  refine m_iast dX11_thinks_26 q10 ?_
  refine m_aload_n dX11_thinks_27 rfl 0 rfl ?_
  refine m_getr f_X11_68 rfl dX11_thinks_28 q1 (by rw [e_M11, e_M8]; exact q3) ?_
  refine m_iconst (v := 3) dX11_thinks_31 (by decide) ?_
  refine m_iload_n dX11_thinks_32 rfl 3 rfl ?_
  obtain ⟨q12, h⟩ := h
  obtain ⟨M13, e_M13⟩ : ∃ M13 : mM, M13 = m_ui M11 r2 (Int32.toNatClampNeg 2) x4 := ⟨_, rfl⟩
  have h := h M13 e_M13
  rw [← e_M13]
  refine m_iast dX11_thinks_33 q12 ?_
  refine m_aload_n dX11_thinks_34 rfl 0 rfl ?_
  refine m_getr f_X11_68 rfl dX11_thinks_35 q1 (by rw [e_M13, e_M11, e_M8]; exact q3) ?_
  refine m_iconst (v := 4) dX11_thinks_38 (by decide) ?_
  refine m_iload_n dX11_thinks_39 rfl 1 rfl ?_
  obtain ⟨q14, h⟩ := h
  obtain ⟨M15, e_M15⟩ : ∃ M15 : mM, M15 = m_ui M13 r2 (Int32.toNatClampNeg 3) x3 := ⟨_, rfl⟩
  have h := h M15 e_M15
  rw [← e_M15]
  refine m_iast dX11_thinks_40 q14 ?_
  refine m_aload_n dX11_thinks_41 rfl 0 rfl ?_
  refine m_getr f_X11_68 rfl dX11_thinks_42 q1 (by rw [e_M15, e_M13, e_M11, e_M8]; exact q3) ?_
  refine m_iconst (v := 5) dX11_thinks_45 (by decide) ?_
  refine m_aload_n dX11_thinks_46 rfl 0 rfl ?_
  obtain ⟨M16, e_M16⟩ : ∃ M16 : mM, M16 = m_ui M15 r2 (Int32.toNatClampNeg 4) x1 := ⟨_, rfl⟩
  have h := h M16 e_M16
  rw [← e_M16]
  refine m_geti f_X11_141 rfl dX11_thinks_47 q1 ?_
  obtain ⟨q17, h⟩ := h
  refine m_iast dX11_thinks_50 q17 ?_
  refine m_aload_n dX11_thinks_51 rfl 0 rfl ?_
  refine m_getr f_X11_68 rfl dX11_thinks_52 q1 (by rw [e_M16, e_M15, e_M13, e_M11, e_M8]; exact q3) ?_
  refine m_bipush (v := 6) dX11_thinks_55 (by decide) ?_
  refine m_aload_n dX11_thinks_57 rfl 0 rfl ?_
  obtain ⟨M18, e_M18⟩ : ∃ M18 : mM, M18 = m_ui M16 r2 (Int32.toNatClampNeg 5) (((M16).1 a0 0)) := ⟨_, rfl⟩
  have h := h M18 e_M18
  rw [← e_M18]
  refine m_geti f_X11_159 rfl dX11_thinks_58 q1 ?_
  obtain ⟨q19, h⟩ := h
  refine m_iast dX11_thinks_61 q19 ?_
  refine m_aload_n dX11_thinks_62 rfl 0 rfl ?_
  refine m_getr f_X11_68 rfl dX11_thinks_63 q1 (by rw [e_M18, e_M16, e_M15, e_M13, e_M11, e_M8]; exact q3) ?_
  refine m_bipush (v := 7) dX11_thinks_66 (by decide) ?_
  refine m_aload_n dX11_thinks_68 rfl 0 rfl ?_
  obtain ⟨r20, q21, h⟩ := h
  refine m_getr f_X11_22 rfl dX11_thinks_69 q1 (by rw [e_M18, e_M16, e_M15, e_M13, e_M11, e_M8]; exact q21) ?_
  refine m_iload_n dX11_thinks_72 rfl 1 rfl ?_
  obtain ⟨q22, h⟩ := h
  obtain ⟨M23, e_M23⟩ : ∃ M23 : mM, M23 = m_ui M18 r2 (Int32.toNatClampNeg 6) (((M18).1 a0 3)) := ⟨_, rfl⟩
  have h := h M23 e_M23
  rw [← e_M23]
  refine m_iald dX11_thinks_73 q22 ?_
  obtain ⟨q24, h⟩ := h
  refine m_iast dX11_thinks_74 q24 ?_
  refine m_aload_n dX11_thinks_75 rfl 0 rfl ?_
  refine m_aload_n dX11_thinks_76 rfl 0 rfl ?_
  refine m_bipush (v := 115) dX11_thinks_77 (by decide) ?_
  refine m_bipush (v := 8) dX11_thinks_79 (by decide) ?_
  refine m_invV (ci := 11) (As := [.int 115, .int 8]) (d' := d) (mc' := 0) (ms' := 0) (rest := [.ref a0]) i_11_byLaw v_11_byLaw t_11_byLaw l_X11_279 ⟨_, _, rfl⟩ dX11_thinks_81 rfl rfl q1 (Nat.le_of_ble_eq_true rfl) (Nat.le_refl _) ⟨Nat.le_refl _, Nat.le_refl _⟩ (m_Ci h (fun v26 M25 h => ?_))
  show m_W (d + 1) 0 0 yX11_thinks cX11_thinks 5 none (m_qv Th Q) 84 [(0, .ref a0), (1, .int x1), (2, .int x2), (3, .int x3), (4, .int x4)] [.int v26, .ref a0] Th M25 0 0
  refine m_puti f_X11_282 rfl (Or.inl rfl) dX11_thinks_84 q1 ⟨rfl, rfl⟩ ?_
  refine m_aload_n dX11_thinks_87 rfl 0 rfl ?_
  refine m_aload_n dX11_thinks_88 rfl 0 rfl ?_
  refine m_bipush (v := 101) dX11_thinks_89 (by decide) ?_
  refine m_bipush (v := 8) dX11_thinks_91 (by decide) ?_
  refine m_aload_n dX11_thinks_93 rfl 0 rfl ?_
  obtain ⟨M27, e_M27⟩ : ∃ M27 : mM, M27 = m_ui M25 a0 35 v26 := ⟨_, rfl⟩
  have h := h M27 e_M27
  rw [← e_M27]
  refine m_geti f_X11_282 rfl dX11_thinks_94 q1 ?_
  refine m_isub dX11_thinks_97 ?_
  refine m_invV (ci := 11) (As := [.int 101, .int ((8 - ((M27).1 a0 35)))]) (d' := d) (mc' := 0) (ms' := 0) (rest := [.ref a0]) i_11_byLaw v_11_byLaw t_11_byLaw l_X11_279 ⟨_, _, rfl⟩ dX11_thinks_98 rfl rfl q1 (Nat.le_of_ble_eq_true rfl) (Nat.le_refl _) ⟨Nat.le_refl _, Nat.le_refl _⟩ (m_Ci h (fun v29 M28 h => ?_))
  show m_W (d + 1) 0 0 yX11_thinks cX11_thinks 5 none (m_qv Th Q) 101 [(0, .ref a0), (1, .int x1), (2, .int x2), (3, .int x3), (4, .int x4)] [.int v29, .ref a0] Th M28 0 0
  refine m_puti f_X11_285 rfl (Or.inl rfl) dX11_thinks_101 q1 ⟨rfl, rfl⟩ ?_
  exact m_return dX11_thinks_104 rfl ⟨rfl, rfl, h⟩
set_option maxHeartbeats 4000000 in
set_option maxRecDepth 100000 in
theorem e11_chance {d : Nat} {Th : mT} {Q : Int32 → mM → Prop} {a0 : Nat} {x1 : Int32} {x2 : Int32} {x3 : Int32} {x4 : Int32} {M : mM} (h : Th.2.2 a0 = some (.inl 11) ∧ (P11_isBand d Th a0 x1 M (fun (v2 : Int32) (M1 : mM) => if v2 = 0 then (Q (-1) M1) else (P11_isRiddle d Th a0 x2 M1 (fun (v5 : Int32) (M4 : mM) => if v5 = 0 then (Q (-1) M4) else (P11_in d Th x3 0 5 M4 (fun (v7 : Int32) (M6 : mM) => if v7 = 0 then (Q (-1) M6) else (P11_in d Th x4 0 1 M6 (fun (v9 : Int32) (M8 : mM) => if v9 = 0 then (Q (-1) M8) else (∃ r10 : Nat, M8.2.2 a0 8 = some r10 ∧ (m_ok Th r10 .int x1 ∧ (P11_thinks d Th a0 x1 (((M8).1 r10 (Int32.toNatClampNeg x1))) x2 x3 M8 (fun M13 : mM => if x4 = 0 then (Q (((M13).1 a0 35)) M13) else (Q (((M13).1 a0 36)) M13)))))))))))))) : P11_chance (d + 1) Th a0 x1 x2 x3 x4 M Q := by
  refine m_C.of (by decide +kernel) (Nat.le_of_ble_eq_true rfl) ?_
  show m_W (d + 1) 0 0 yX11_chance cX11_chance 5 (some .int) (m_qi Th Q) 0 [(0, .ref a0), (1, .int x1), (2, .int x2), (3, .int x3), (4, .int x4)] [] Th M 0 0
  refine m_aload_n dX11_chance_0 rfl 0 rfl ?_
  refine m_iload_n dX11_chance_1 rfl 1 rfl ?_
  obtain ⟨q3, h⟩ := h
  refine m_invV (ci := 11) (As := [.int x1]) (d' := d) (mc' := 0) (ms' := 0) (rest := []) i_11_isBand v_11_isBand t_11_isBand l_X11_144 ⟨_, _, rfl⟩ dX11_chance_2 rfl rfl q3 (Nat.le_of_ble_eq_true rfl) (Nat.le_refl _) ⟨Nat.le_refl _, Nat.le_refl _⟩ (m_Ci h (fun v2 M1 h => ?_))
  show m_W (d + 1) 0 0 yX11_chance cX11_chance 5 (some .int) (m_qi Th Q) 5 [(0, .ref a0), (1, .int x1), (2, .int x2), (3, .int x3), (4, .int x4)] [.int v2] Th M1 0 0
  refine m_if_eq (tgt := 35) dX11_chance_5 (by decide) (fun c1 => ?_) (fun c1 => ?_)
  · rw [if_pos c1] at h
    refine m_iconst (v := (-1)) dX11_chance_35 (by decide) ?_
    exact m_ireturn dX11_chance_36 rfl rfl ⟨rfl, _, rfl, h⟩
  · rw [if_neg c1] at h
    refine m_aload_n dX11_chance_8 rfl 0 rfl ?_
    refine m_iload_n dX11_chance_9 rfl 2 rfl ?_
    refine m_invV (ci := 11) (As := [.int x2]) (d' := d) (mc' := 0) (ms' := 0) (rest := []) i_11_isRiddle v_11_isRiddle t_11_isRiddle l_X11_166 ⟨_, _, rfl⟩ dX11_chance_10 rfl rfl q3 (Nat.le_of_ble_eq_true rfl) (Nat.le_refl _) ⟨Nat.le_refl _, Nat.le_refl _⟩ (m_Ci h (fun v5 M4 h => ?_))
    show m_W (d + 1) 0 0 yX11_chance cX11_chance 5 (some .int) (m_qi Th Q) 13 [(0, .ref a0), (1, .int x1), (2, .int x2), (3, .int x3), (4, .int x4)] [.int v5] Th M4 0 0
    refine m_if_eq (tgt := 35) dX11_chance_13 (by decide) (fun c1 => ?_) (fun c1 => ?_)
    · rw [if_pos c1] at h
      refine m_iconst (v := (-1)) dX11_chance_35 (by decide) ?_
      exact m_ireturn dX11_chance_36 rfl rfl ⟨rfl, _, rfl, h⟩
    · rw [if_neg c1] at h
      refine m_iload_n dX11_chance_16 rfl 3 rfl ?_
      refine m_iconst (v := 0) dX11_chance_17 (by decide) ?_
      refine m_iconst (v := 5) dX11_chance_18 (by decide) ?_
      refine m_invS (As := [.int x3, .int 0, .int 5]) (d' := d) (mc' := 0) (ms' := 0) (rest := []) i_11_in s_11_in l_X11_148 dX11_chance_19 rfl rfl (Nat.le_of_ble_eq_true rfl) (Nat.le_refl _) ⟨Nat.le_refl _, Nat.le_refl _⟩ (m_Ci h (fun v7 M6 h => ?_))
      show m_W (d + 1) 0 0 yX11_chance cX11_chance 5 (some .int) (m_qi Th Q) 22 [(0, .ref a0), (1, .int x1), (2, .int x2), (3, .int x3), (4, .int x4)] [.int v7] Th M6 0 0
      refine m_if_eq (tgt := 35) dX11_chance_22 (by decide) (fun c1 => ?_) (fun c1 => ?_)
      · rw [if_pos c1] at h
        refine m_iconst (v := (-1)) dX11_chance_35 (by decide) ?_
        exact m_ireturn dX11_chance_36 rfl rfl ⟨rfl, _, rfl, h⟩
      · rw [if_neg c1] at h
        refine m_iload dX11_chance_25 4 rfl ?_
        refine m_iconst (v := 0) dX11_chance_27 (by decide) ?_
        refine m_iconst (v := 1) dX11_chance_28 (by decide) ?_
        refine m_invS (As := [.int x4, .int 0, .int 1]) (d' := d) (mc' := 0) (ms' := 0) (rest := []) i_11_in s_11_in l_X11_148 dX11_chance_29 rfl rfl (Nat.le_of_ble_eq_true rfl) (Nat.le_refl _) ⟨Nat.le_refl _, Nat.le_refl _⟩ (m_Ci h (fun v9 M8 h => ?_))
        show m_W (d + 1) 0 0 yX11_chance cX11_chance 5 (some .int) (m_qi Th Q) 32 [(0, .ref a0), (1, .int x1), (2, .int x2), (3, .int x3), (4, .int x4)] [.int v9] Th M8 0 0
        refine m_if_ne (tgt := 37) dX11_chance_32 (by decide) (fun c1 => ?_) (fun c1 => ?_)
        · rw [if_neg c1] at h
          refine m_aload_n dX11_chance_37 rfl 0 rfl ?_
          refine m_iload_n dX11_chance_38 rfl 1 rfl ?_
          refine m_aload_n dX11_chance_39 rfl 0 rfl ?_
          obtain ⟨r10, q11, h⟩ := h
          refine m_getr f_X11_19 rfl dX11_chance_40 q3 q11 ?_
          refine m_iload_n dX11_chance_43 rfl 1 rfl ?_
          obtain ⟨q12, h⟩ := h
          refine m_iald dX11_chance_44 q12 ?_
          refine m_iload_n dX11_chance_45 rfl 2 rfl ?_
          refine m_iload_n dX11_chance_46 rfl 3 rfl ?_
          refine m_invV (ci := 11) (As := [.int x1, .int (((M8).1 r10 (Int32.toNatClampNeg x1))), .int x2, .int x3]) (d' := d) (mc' := 0) (ms' := 0) (rest := []) i_11_thinks v_11_thinks t_11_thinks l_X11_288 ⟨_, _, rfl⟩ dX11_chance_47 rfl rfl q3 (Nat.le_of_ble_eq_true rfl) (Nat.le_refl _) ⟨Nat.le_refl _, Nat.le_refl _⟩ (m_Cv h (fun M13 h => ?_))
          show m_W (d + 1) 0 0 yX11_chance cX11_chance 5 (some .int) (m_qi Th Q) 50 [(0, .ref a0), (1, .int x1), (2, .int x2), (3, .int x3), (4, .int x4)] [] Th M13 0 0
          refine m_iload dX11_chance_50 4 rfl ?_
          refine m_if_ne (tgt := 62) dX11_chance_52 (by decide) (fun c1 => ?_) (fun c1 => ?_)
          · rw [if_neg c1] at h
            refine m_aload_n dX11_chance_62 rfl 0 rfl ?_
            refine m_geti f_X11_285 rfl dX11_chance_63 q3 ?_
            exact m_ireturn dX11_chance_66 rfl rfl ⟨rfl, _, rfl, h⟩
          · rw [if_pos c1] at h
            refine m_aload_n dX11_chance_55 rfl 0 rfl ?_
            refine m_geti f_X11_282 rfl dX11_chance_56 q3 ?_
            refine m_goto (tgt := 66) dX11_chance_59 (by decide) ?_
            exact m_ireturn dX11_chance_66 rfl rfl ⟨rfl, _, rfl, h⟩
        · rw [if_pos c1] at h
          refine m_iconst (v := (-1)) dX11_chance_35 (by decide) ?_
          exact m_ireturn dX11_chance_36 rfl rfl ⟨rfl, _, rfl, h⟩
set_option maxHeartbeats 4000000 in
set_option maxRecDepth 100000 in
theorem e11_more {d : Nat} {Th : mT} {Q : Int32 → mM → Prop} {x0 : Int32} {M : mM} (h : Q ((if 5 ≤ x0 then 5 else (x0 + 1))) M) : P11_more (d + 1) Th x0 M Q := by
  refine m_C.of (by decide +kernel) (Nat.le_of_ble_eq_true rfl) ?_
  show m_W (d + 1) 0 0 yX11_more cX11_more 1 (some .int) (m_qi Th Q) 0 [(0, .int x0)] [] Th M 0 0
  refine m_iload_n dX11_more_0 rfl 0 rfl ?_
  refine m_iconst (v := 5) dX11_more_1 (by decide) ?_
  have hJ : m_W (d + 1) 0 0 yX11_more cX11_more 1 (some .int) (m_qi Th Q) 12 [(0, .int x0)] [.int ((if 5 ≤ x0 then 5 else (x0 + 1)))] Th M 0 0 := by
    exact m_ireturn dX11_more_12 rfl rfl ⟨rfl, _, rfl, h⟩
  refine m_icmp_ge (tgt := 11) dX11_more_2 (by decide) (fun c1 => ?_) (fun c1 => ?_)
  · simp only [if_pos c1] at hJ
    refine m_iconst (v := 5) dX11_more_11 (by decide) ?_
    exact hJ
  · simp only [if_neg c1] at hJ
    refine m_iload_n dX11_more_5 rfl 0 rfl ?_
    refine m_iconst (v := 1) dX11_more_6 (by decide) ?_
    refine m_iadd dX11_more_7 ?_
    refine m_goto (tgt := 12) dX11_more_8 (by decide) ?_
    exact hJ
set_option maxHeartbeats 4000000 in
set_option maxRecDepth 100000 in
theorem e11_goesOn {d : Nat} {Th : mT} {Q : Int32 → mM → Prop} {x0 : Int32} {x1 : Int32} {M : mM} (h : ∀ xv1 : Int32, xv1 = (x0 / 16) → ∀ xv2 : Int32, xv2 = (x0 - x0 / 16 * 16) → if xv2 = 6 then (Q ((if (xv1 + 1) = x1 then (16 * x1) else (16 * (xv1 + 1)))) M) else (if xv2 = 12 then (Q ((16 * xv1)) M) else (Q ((x0 - 1)) M))) : P11_goesOn (d + 1) Th x0 x1 M Q := by
  refine m_C.of (by decide +kernel) (Nat.le_of_ble_eq_true rfl) ?_
  show m_W (d + 1) 0 0 yX11_goesOn cX11_goesOn 4 (some .int) (m_qi Th Q) 0 [(0, .int x0), (1, .int x1)] [] Th M 0 0
  refine m_iload_n dX11_goesOn_0 rfl 0 rfl ?_
  refine m_bipush (v := 16) dX11_goesOn_1 (by decide) ?_
  refine m_idiv dX11_goesOn_3 (by decide) ?_
  obtain ⟨xv1, e_xv1⟩ : ∃ xv1 : Int32, xv1 = (x0 / 16) := ⟨_, rfl⟩
  have h := h xv1 e_xv1
  rw [← e_xv1]
  refine m_istore_n (lv' := [(2, .int xv1), (0, .int x0), (1, .int x1)]) dX11_goesOn_4 rfl (by decide) rfl ?_
  refine m_iload_n dX11_goesOn_5 rfl 1 rfl ?_
  refine m_bipush (v := 16) dX11_goesOn_6 (by decide) ?_
  refine m_irem dX11_goesOn_8 (by decide) ?_
  obtain ⟨xv2, e_xv2⟩ : ∃ xv2 : Int32, xv2 = (x0 - x0 / 16 * 16) := ⟨_, rfl⟩
  have h := h xv2 e_xv2
  rw [← e_xv2]
  refine m_istore_n (lv' := [(3, .int xv2), (2, .int xv1), (0, .int x0), (1, .int x1)]) dX11_goesOn_9 rfl (by decide) rfl ?_
  refine m_iload_n dX11_goesOn_10 rfl 0 rfl ?_
  refine m_bipush (v := 6) dX11_goesOn_11 (by decide) ?_
  refine m_icmp_ne (tgt := 37) dX11_goesOn_13 (by decide) (fun c1 => ?_) (fun c1 => ?_)
  · rw [if_neg c1] at h
    refine m_iload_n dX11_goesOn_37 rfl 0 rfl ?_
    refine m_bipush (v := 12) dX11_goesOn_38 (by decide) ?_
    refine m_icmp_ne (tgt := 48) dX11_goesOn_40 (by decide) (fun c1 => ?_) (fun c1 => ?_)
    · rw [if_neg c1] at h
      refine m_iload_n dX11_goesOn_48 rfl 2 rfl ?_
      refine m_iconst (v := 1) dX11_goesOn_49 (by decide) ?_
      refine m_isub dX11_goesOn_50 ?_
      exact m_ireturn dX11_goesOn_51 rfl rfl ⟨rfl, _, rfl, h⟩
    · rw [if_pos c1] at h
      refine m_bipush (v := 16) dX11_goesOn_43 (by decide) ?_
      refine m_iload_n dX11_goesOn_45 rfl 1 rfl ?_
      refine m_imul dX11_goesOn_46 ?_
      exact m_ireturn dX11_goesOn_47 rfl rfl ⟨rfl, _, rfl, h⟩
  · rw [if_pos c1] at h
    refine m_iload_n dX11_goesOn_16 rfl 1 rfl ?_
    refine m_iconst (v := 1) dX11_goesOn_17 (by decide) ?_
    refine m_iadd dX11_goesOn_18 ?_
    refine m_iload_n dX11_goesOn_19 rfl 3 rfl ?_
    have hJ : m_W (d + 1) 0 0 yX11_goesOn cX11_goesOn 4 (some .int) (m_qi Th Q) 36 [(3, .int xv2), (2, .int xv1), (0, .int x0), (1, .int x1)] [.int ((if (xv1 + 1) = x1 then (16 * x1) else (16 * (xv1 + 1))))] Th M 0 0 := by
      exact m_ireturn dX11_goesOn_36 rfl rfl ⟨rfl, _, rfl, h⟩
    refine m_icmp_ne (tgt := 30) dX11_goesOn_20 (by decide) (fun c1 => ?_) (fun c1 => ?_)
    · simp only [if_neg c1] at hJ
      refine m_bipush (v := 16) dX11_goesOn_30 (by decide) ?_
      refine m_iload_n dX11_goesOn_32 rfl 1 rfl ?_
      refine m_iconst (v := 1) dX11_goesOn_33 (by decide) ?_
      refine m_iadd dX11_goesOn_34 ?_
      refine m_imul dX11_goesOn_35 ?_
      exact hJ
    · simp only [if_pos c1] at hJ
      refine m_bipush (v := 16) dX11_goesOn_23 (by decide) ?_
      refine m_iload_n dX11_goesOn_25 rfl 3 rfl ?_
      refine m_imul dX11_goesOn_26 ?_
      refine m_goto (tgt := 36) dX11_goesOn_27 (by decide) ?_
      exact hJ
set_option maxHeartbeats 4000000 in
set_option maxRecDepth 100000 in
theorem h11_steps_3 {d : Nat} {Th : mT} {Q : Int64 → mM → Prop} {a0 : Nat} {x1 : Int32} {x2 : Int32} {x3 : Int32} {x4 : Int32} {M : mM} (h : if (16 * x3) < x4 then (H11_steps_29 (d + 1) Th Q a0 x1 x2 x3 0 M) else (Th.2.2 a0 = some (.inl 11) ∧ (∃ r2 : Nat, M.2.2 a0 38 = some r2 ∧ (m_okw Th r2 .long x4 ∧ (H11_steps_3 (d + 1) Th Q a0 x1 x2 x3 (x4 + 1) (m_ul M r2 (Int32.toNatClampNeg x4) 0)))))) : H11_steps_3 (d + 1) Th Q a0 x1 x2 x3 x4 M := by
  show m_W (d + 1) 0 0 yX11_steps cX11_steps 10 (some .long) (m_ql Th Q) 3 [(0, .ref a0), (1, .int x1), (2, .int x2), (3, .int x3), (4, .int x4)] [] Th M 0 0
  refine m_iload dX11_steps_3 4 rfl ?_
  refine m_bipush (v := 16) dX11_steps_5 (by decide) ?_
  refine m_iload_n dX11_steps_7 rfl 3 rfl ?_
  refine m_imul dX11_steps_8 ?_
  refine m_icmp_gt (tgt := 26) dX11_steps_9 (by decide) (fun c1 => ?_) (fun c1 => ?_)
  · rw [if_pos c1] at h
    refine m_iconst (v := 0) dX11_steps_26 (by decide) ?_
    refine m_istore (lv' := [(4, .int 0), (0, .ref a0), (1, .int x1), (2, .int x2), (3, .int x3)]) dX11_steps_27 (by decide) rfl ?_
    exact m_sub [1, 2, 3, 4, 0] rfl h
  · rw [if_neg c1] at h
    refine m_aload_n dX11_steps_12 rfl 0 rfl ?_
    obtain ⟨q1, h⟩ := h
    obtain ⟨r2, q3, h⟩ := h
    refine m_getr f_X11_75 rfl dX11_steps_13 q1 q3 ?_
    refine m_iload dX11_steps_16 4 rfl ?_
    refine m_lconst (v := 0) dX11_steps_18 (by decide) ?_
    obtain ⟨q4, h⟩ := h
    refine m_last dX11_steps_19 q4 ?_
    refine m_iinc (v := x4 + 1) (lv' := [(4, .int (x4 + 1)), (0, .ref a0), (1, .int x1), (2, .int x2), (3, .int x3)]) dX11_steps_20 4 rfl rfl (by decide) rfl ?_
    refine m_goto (tgt := 3) dX11_steps_23 (by decide) ?_
    exact m_sub [1, 2, 3, 4, 0] rfl h
set_option maxHeartbeats 4000000 in
set_option maxRecDepth 100000 in
theorem h11_steps_29 {d : Nat} {Th : mT} {Q : Int64 → mM → Prop} {a0 : Nat} {x1 : Int32} {x2 : Int32} {x3 : Int32} {x4 : Int32} {M : mM} (h : if (16 * x3) ≤ x4 then (H11_steps_266 (d + 1) Th Q a0 x3 0 M) else (Th.2.2 a0 = some (.inl 11) ∧ (∃ r2 : Nat, M.2.2 a0 37 = some r2 ∧ (m_ok Th r2 .long x4 ∧ (if (lg_cmp (((M).2.1 r2 (Int32.toNatClampNeg x4))) 0) = 0 then (H11_steps_29 (d + 1) Th Q a0 x1 x2 x3 (x4 + 1) M) else (∀ xv5 : Int32, xv5 = (x4 / 16) → ∀ xv6 : Int32, xv6 = (x4 - x4 / 16 * 16) → if xv6 ≤ 5 then (P11_thinks d Th a0 x1 x2 xv5 xv6 M (fun M7 : mM => P11_walkOf d Th a0 x1 xv5 M7 (fun (v10 : Int32) (M9 : mM) => ∀ xv11 : Int32, xv11 = (((16 * xv5) + 5) + v10) → ∀ xv12 : Int32, xv12 = (((16 * xv5) + 11) + ((M9).1 a0 2)) → P11_more d Th xv6 M9 (fun (v14 : Int32) (M13 : mM) => ∀ xv15 : Int32, xv15 = ((16 * xv5) + v14) → ∃ r16 : Nat, M13.2.2 a0 38 = some r16 ∧ (m_ok Th r16 .long xv11 ∧ (∃ r19 : Nat, M13.2.2 a0 37 = some r19 ∧ (m_ok Th r19 .long x4 ∧ (m_okw Th r16 .long xv11 ∧ (m_ok Th r16 .long xv12 ∧ (∀ M24 : mM, M24 = m_ul M13 r16 (Int32.toNatClampNeg xv11) ((((M13).2.1 r16 (Int32.toNatClampNeg xv11)) + ((((M13).1 a0 35) : Int32).toInt64 * ((M13).2.1 r19 (Int32.toNatClampNeg x4))))) → m_okw Th r16 .long xv12 ∧ (m_ok Th r16 .long xv15 ∧ (∀ M27 : mM, M27 = m_ul M24 r16 (Int32.toNatClampNeg xv12) ((((M24).2.1 r16 (Int32.toNatClampNeg xv12)) + ((((M24).1 a0 36) : Int32).toInt64 * ((M24).2.1 r19 (Int32.toNatClampNeg x4))))) → m_okw Th r16 .long xv15 ∧ (H11_steps_29 (d + 1) Th Q a0 x1 x2 x3 (x4 + 1) (m_ul M27 r16 (Int32.toNatClampNeg xv15) ((((M27).2.1 r16 (Int32.toNatClampNeg xv15)) + ((((8 - ((M27).1 a0 35)) - ((M27).1 a0 36)) : Int32).toInt64 * ((M27).2.1 r19 (Int32.toNatClampNeg x4))))))))))))))))))) else (P11_goesOn d Th x4 x3 M (fun (v30 : Int32) (M29 : mM) => ∃ r31 : Nat, M29.2.2 a0 38 = some r31 ∧ (m_ok Th r31 .long v30 ∧ (∃ r34 : Nat, M29.2.2 a0 37 = some r34 ∧ (m_ok Th r34 .long x4 ∧ (m_okw Th r31 .long v30 ∧ (H11_steps_29 (d + 1) Th Q a0 x1 x2 x3 (x4 + 1) (m_ul M29 r31 (Int32.toNatClampNeg v30) ((((M29).2.1 r31 (Int32.toNatClampNeg v30)) + (8 * ((M29).2.1 r34 (Int32.toNatClampNeg x4))))))))))))))))))) : H11_steps_29 (d + 1) Th Q a0 x1 x2 x3 x4 M := by
  show m_W (d + 1) 0 0 yX11_steps cX11_steps 10 (some .long) (m_ql Th Q) 29 [(0, .ref a0), (1, .int x1), (2, .int x2), (3, .int x3), (4, .int x4)] [] Th M 0 0
  refine m_iload dX11_steps_29 4 rfl ?_
  refine m_bipush (v := 16) dX11_steps_31 (by decide) ?_
  refine m_iload_n dX11_steps_33 rfl 3 rfl ?_
  refine m_imul dX11_steps_34 ?_
  refine m_icmp_ge (tgt := 263) dX11_steps_35 (by decide) (fun c1 => ?_) (fun c1 => ?_)
  · rw [if_pos c1] at h
    refine m_iconst (v := 0) dX11_steps_263 (by decide) ?_
    refine m_istore (lv' := [(4, .int 0), (0, .ref a0), (1, .int x1), (2, .int x2), (3, .int x3)]) dX11_steps_264 (by decide) rfl ?_
    exact m_sub [1, 4, 0] rfl h
  · rw [if_neg c1] at h
    refine m_aload_n dX11_steps_38 rfl 0 rfl ?_
    obtain ⟨q1, h⟩ := h
    obtain ⟨r2, q3, h⟩ := h
    refine m_getr f_X11_71 rfl dX11_steps_39 q1 q3 ?_
    refine m_iload dX11_steps_42 4 rfl ?_
    obtain ⟨q4, h⟩ := h
    refine m_lald dX11_steps_44 q4 ?_
    refine m_lconst (v := 0) dX11_steps_45 (by decide) ?_
    refine m_lcmp dX11_steps_46 ?_
    refine m_if_ne (tgt := 53) dX11_steps_47 (by decide) (fun c1 => ?_) (fun c1 => ?_)
    · rw [if_neg c1] at h
      refine m_iload dX11_steps_53 4 rfl ?_
      refine m_bipush (v := 16) dX11_steps_55 (by decide) ?_
      refine m_idiv dX11_steps_57 (by decide) ?_
      obtain ⟨xv5, e_xv5⟩ : ∃ xv5 : Int32, xv5 = (x4 / 16) := ⟨_, rfl⟩
      have h := h xv5 e_xv5
      rw [← e_xv5]
      refine m_istore (lv' := [(5, .int xv5), (0, .ref a0), (1, .int x1), (2, .int x2), (3, .int x3), (4, .int x4)]) dX11_steps_58 (by decide) rfl ?_
      refine m_iload dX11_steps_60 5 rfl ?_
      refine m_bipush (v := 16) dX11_steps_62 (by decide) ?_
      refine m_irem dX11_steps_64 (by decide) ?_
      obtain ⟨xv6, e_xv6⟩ : ∃ xv6 : Int32, xv6 = (x4 - x4 / 16 * 16) := ⟨_, rfl⟩
      have h := h xv6 e_xv6
      rw [← e_xv6]
      refine m_istore (lv' := [(6, .int xv6), (5, .int xv5), (0, .ref a0), (1, .int x1), (2, .int x2), (3, .int x3), (4, .int x4)]) dX11_steps_65 (by decide) rfl ?_
      refine m_iload dX11_steps_67 0 rfl ?_
      refine m_iconst (v := 5) dX11_steps_69 (by decide) ?_
      refine m_icmp_le (tgt := 110) dX11_steps_70 (by decide) (fun c1 => ?_) (fun c1 => ?_)
      · rw [if_pos c1] at h
        refine m_aload_n dX11_steps_110 rfl 2 rfl ?_
        refine m_iload_n dX11_steps_111 rfl 3 rfl ?_
        refine m_iload_n dX11_steps_112 rfl 4 rfl ?_
        refine m_iload dX11_steps_113 1 rfl ?_
        refine m_iload dX11_steps_115 0 rfl ?_
        refine m_invV (ci := 11) (As := [.int x1, .int x2, .int xv5, .int xv6]) (d' := d) (mc' := 0) (ms' := 0) (rest := []) i_11_thinks v_11_thinks t_11_thinks l_X11_288 ⟨_, _, rfl⟩ dX11_steps_117 rfl rfl q1 (Nat.le_of_ble_eq_true rfl) (Nat.le_refl _) ⟨Nat.le_refl _, Nat.le_refl _⟩ (m_Cv h (fun M7 h => ?_))
        show m_W (d + 1) 0 0 yX11_steps cX11_steps 10 (some .long) (m_ql Th Q) 120 [(6, .int xv6), (5, .int xv5), (0, .ref a0), (1, .int x1), (2, .int x2), (3, .int x3), (4, .int x4)] [] Th M7 0 0
        refine m_bipush (v := 16) dX11_steps_120 (by decide) ?_
        refine m_iload dX11_steps_122 1 rfl ?_
        refine m_imul dX11_steps_124 ?_
        refine m_iconst (v := 5) dX11_steps_125 (by decide) ?_
        refine m_iadd dX11_steps_126 ?_
        refine m_aload_n dX11_steps_127 rfl 2 rfl ?_
        refine m_iload_n dX11_steps_128 rfl 3 rfl ?_
        refine m_iload dX11_steps_129 1 rfl ?_
        refine m_invV (ci := 11) (As := [.int x1, .int xv5]) (d' := d) (mc' := 0) (ms' := 0) (rest := [.int (((16 * xv5) + 5))]) i_11_walkOf v_11_walkOf t_11_walkOf l_X11_169 ⟨_, _, rfl⟩ dX11_steps_131 rfl rfl q1 (Nat.le_of_ble_eq_true rfl) (Nat.le_refl _) ⟨Nat.le_refl _, Nat.le_refl _⟩ (m_Ci h (fun v10 M9 h => ?_))
        show m_W (d + 1) 0 0 yX11_steps cX11_steps 10 (some .long) (m_ql Th Q) 134 [(6, .int xv6), (5, .int xv5), (0, .ref a0), (1, .int x1), (2, .int x2), (3, .int x3), (4, .int x4)] [.int v10, .int (((16 * xv5) + 5))] Th M9 0 0
        refine m_iadd dX11_steps_134 ?_
        obtain ⟨xv11, e_xv11⟩ : ∃ xv11 : Int32, xv11 = (((16 * xv5) + 5) + v10) := ⟨_, rfl⟩
        have h := h xv11 e_xv11
        rw [← e_xv11]
        refine m_istore (lv' := [(7, .int xv11), (6, .int xv6), (5, .int xv5), (0, .ref a0), (1, .int x1), (2, .int x2), (3, .int x3), (4, .int x4)]) dX11_steps_135 (by decide) rfl ?_
        refine m_bipush (v := 16) dX11_steps_137 (by decide) ?_
        refine m_iload dX11_steps_139 2 rfl ?_
        refine m_imul dX11_steps_141 ?_
        refine m_bipush (v := 11) dX11_steps_142 (by decide) ?_
        refine m_iadd dX11_steps_144 ?_
        refine m_aload_n dX11_steps_145 rfl 3 rfl ?_
        refine m_geti f_X11_131 rfl dX11_steps_146 q1 ?_
        refine m_iadd dX11_steps_149 ?_
        obtain ⟨xv12, e_xv12⟩ : ∃ xv12 : Int32, xv12 = (((16 * xv5) + 11) + ((M9).1 a0 2)) := ⟨_, rfl⟩
        have h := h xv12 e_xv12
        rw [← e_xv12]
        refine m_istore (lv' := [(8, .int xv12), (7, .int xv11), (6, .int xv6), (5, .int xv5), (0, .ref a0), (1, .int x1), (2, .int x2), (3, .int x3), (4, .int x4)]) dX11_steps_150 (by decide) rfl ?_
        refine m_bipush (v := 16) dX11_steps_152 (by decide) ?_
        refine m_iload dX11_steps_154 3 rfl ?_
        refine m_imul dX11_steps_156 ?_
        refine m_iload dX11_steps_157 2 rfl ?_
        refine m_invS (As := [.int xv6]) (d' := d) (mc' := 0) (ms' := 0) (rest := [.int ((16 * xv5))]) i_11_more s_11_more l_X11_297 dX11_steps_159 rfl rfl (Nat.le_of_ble_eq_true rfl) (Nat.le_refl _) ⟨Nat.le_refl _, Nat.le_refl _⟩ (m_Ci h (fun v14 M13 h => ?_))
        show m_W (d + 1) 0 0 yX11_steps cX11_steps 10 (some .long) (m_ql Th Q) 162 [(8, .int xv12), (7, .int xv11), (6, .int xv6), (5, .int xv5), (0, .ref a0), (1, .int x1), (2, .int x2), (3, .int x3), (4, .int x4)] [.int v14, .int ((16 * xv5))] Th M13 0 0
        refine m_iadd dX11_steps_162 ?_
        obtain ⟨xv15, e_xv15⟩ : ∃ xv15 : Int32, xv15 = ((16 * xv5) + v14) := ⟨_, rfl⟩
        have h := h xv15 e_xv15
        rw [← e_xv15]
        refine m_istore (lv' := [(9, .int xv15), (8, .int xv12), (7, .int xv11), (6, .int xv6), (5, .int xv5), (0, .ref a0), (1, .int x1), (2, .int x2), (3, .int x3), (4, .int x4)]) dX11_steps_163 (by decide) rfl ?_
        refine m_aload_n dX11_steps_165 rfl 5 rfl ?_
        obtain ⟨r16, q17, h⟩ := h
        refine m_getr f_X11_75 rfl dX11_steps_166 q1 q17 ?_
        refine m_iload dX11_steps_169 2 rfl ?_
        refine m_aload_n dX11_steps_171 rfl 5 rfl ?_
        refine m_getr f_X11_75 rfl dX11_steps_172 q1 q17 ?_
        refine m_iload dX11_steps_175 2 rfl ?_
        obtain ⟨q18, h⟩ := h
        refine m_lald dX11_steps_177 q18 ?_
        refine m_aload_n dX11_steps_178 rfl 5 rfl ?_
        refine m_geti f_X11_282 rfl dX11_steps_179 q1 ?_
        refine m_i2l dX11_steps_182 ?_
        refine m_aload_n dX11_steps_183 rfl 5 rfl ?_
        obtain ⟨r19, q20, h⟩ := h
        refine m_getr f_X11_71 rfl dX11_steps_184 q1 q20 ?_
        refine m_iload dX11_steps_187 9 rfl ?_
        obtain ⟨q21, h⟩ := h
        refine m_lald dX11_steps_189 q21 ?_
        refine m_lmul dX11_steps_190 ?_
        refine m_ladd dX11_steps_191 ?_
        obtain ⟨q22, h⟩ := h
        refine m_last dX11_steps_192 q22 ?_
        refine m_aload_n dX11_steps_193 rfl 5 rfl ?_
        refine m_getr f_X11_75 rfl dX11_steps_194 q1 q17 ?_
        refine m_iload dX11_steps_197 1 rfl ?_
        refine m_aload_n dX11_steps_199 rfl 5 rfl ?_
        refine m_getr f_X11_75 rfl dX11_steps_200 q1 q17 ?_
        refine m_iload dX11_steps_203 1 rfl ?_
        obtain ⟨q23, h⟩ := h
        obtain ⟨M24, e_M24⟩ : ∃ M24 : mM, M24 = m_ul M13 r16 (Int32.toNatClampNeg xv11) ((((M13).2.1 r16 (Int32.toNatClampNeg xv11)) + ((((M13).1 a0 35) : Int32).toInt64 * ((M13).2.1 r19 (Int32.toNatClampNeg x4))))) := ⟨_, rfl⟩
        have h := h M24 e_M24
        rw [← e_M24]
        refine m_lald dX11_steps_205 q23 ?_
        refine m_aload_n dX11_steps_206 rfl 5 rfl ?_
        refine m_geti f_X11_285 rfl dX11_steps_207 q1 ?_
        refine m_i2l dX11_steps_210 ?_
        refine m_aload_n dX11_steps_211 rfl 5 rfl ?_
        refine m_getr f_X11_71 rfl dX11_steps_212 q1 (by rw [e_M24]; exact q20) ?_
        refine m_iload dX11_steps_215 9 rfl ?_
        refine m_lald dX11_steps_217 q21 ?_
        refine m_lmul dX11_steps_218 ?_
        refine m_ladd dX11_steps_219 ?_
        obtain ⟨q25, h⟩ := h
        refine m_last dX11_steps_220 q25 ?_
        refine m_aload_n dX11_steps_221 rfl 5 rfl ?_
        refine m_getr f_X11_75 rfl dX11_steps_222 q1 (by rw [e_M24]; exact q17) ?_
        refine m_iload dX11_steps_225 0 rfl ?_
        refine m_aload_n dX11_steps_227 rfl 5 rfl ?_
        refine m_getr f_X11_75 rfl dX11_steps_228 q1 (by rw [e_M24]; exact q17) ?_
        refine m_iload dX11_steps_231 0 rfl ?_
        obtain ⟨q26, h⟩ := h
        obtain ⟨M27, e_M27⟩ : ∃ M27 : mM, M27 = m_ul M24 r16 (Int32.toNatClampNeg xv12) ((((M24).2.1 r16 (Int32.toNatClampNeg xv12)) + ((((M24).1 a0 36) : Int32).toInt64 * ((M24).2.1 r19 (Int32.toNatClampNeg x4))))) := ⟨_, rfl⟩
        have h := h M27 e_M27
        rw [← e_M27]
        refine m_lald dX11_steps_233 q26 ?_
        refine m_bipush (v := 8) dX11_steps_234 (by decide) ?_
        refine m_aload_n dX11_steps_236 rfl 5 rfl ?_
        refine m_geti f_X11_282 rfl dX11_steps_237 q1 ?_
        refine m_isub dX11_steps_240 ?_
        refine m_aload_n dX11_steps_241 rfl 5 rfl ?_
        refine m_geti f_X11_285 rfl dX11_steps_242 q1 ?_
        refine m_isub dX11_steps_245 ?_
        refine m_i2l dX11_steps_246 ?_
        refine m_aload_n dX11_steps_247 rfl 5 rfl ?_
        refine m_getr f_X11_71 rfl dX11_steps_248 q1 (by rw [e_M27, e_M24]; exact q20) ?_
        refine m_iload dX11_steps_251 9 rfl ?_
        refine m_lald dX11_steps_253 q21 ?_
        refine m_lmul dX11_steps_254 ?_
        refine m_ladd dX11_steps_255 ?_
        obtain ⟨q28, h⟩ := h
        refine m_last dX11_steps_256 q28 ?_
        refine m_iinc (v := x4 + 1) (lv' := [(4, .int (x4 + 1)), (9, .int xv15), (8, .int xv12), (7, .int xv11), (6, .int xv6), (5, .int xv5), (0, .ref a0), (1, .int x1), (2, .int x2), (3, .int x3)]) dX11_steps_257 9 rfl rfl (by decide) rfl ?_
        refine m_goto (tgt := 29) dX11_steps_260 (by decide) ?_
        exact m_sub [6, 7, 8, 9, 0] rfl h
      · rw [if_neg c1] at h
        refine m_iload dX11_steps_73 6 rfl ?_
        refine m_iload_n dX11_steps_75 rfl 5 rfl ?_
        refine m_invS (As := [.int x4, .int x3]) (d' := d) (mc' := 0) (ms' := 0) (rest := []) i_11_goesOn s_11_goesOn l_X11_292 dX11_steps_76 rfl rfl (Nat.le_of_ble_eq_true rfl) (Nat.le_refl _) ⟨Nat.le_refl _, Nat.le_refl _⟩ (m_Ci h (fun v30 M29 h => ?_))
        show m_W (d + 1) 0 0 yX11_steps cX11_steps 10 (some .long) (m_ql Th Q) 79 [(6, .int xv6), (5, .int xv5), (0, .ref a0), (1, .int x1), (2, .int x2), (3, .int x3), (4, .int x4)] [.int v30] Th M29 0 0
        refine m_istore (lv' := [(7, .int v30), (6, .int xv6), (5, .int xv5), (0, .ref a0), (1, .int x1), (2, .int x2), (3, .int x3), (4, .int x4)]) dX11_steps_79 (by decide) rfl ?_
        refine m_aload_n dX11_steps_81 rfl 3 rfl ?_
        obtain ⟨r31, q32, h⟩ := h
        refine m_getr f_X11_75 rfl dX11_steps_82 q1 q32 ?_
        refine m_iload dX11_steps_85 0 rfl ?_
        refine m_aload_n dX11_steps_87 rfl 3 rfl ?_
        refine m_getr f_X11_75 rfl dX11_steps_88 q1 q32 ?_
        refine m_iload dX11_steps_91 0 rfl ?_
        obtain ⟨q33, h⟩ := h
        refine m_lald dX11_steps_93 q33 ?_
        refine m_ldc2 k_X11_295 dX11_steps_94 ?_
        refine m_aload_n dX11_steps_97 rfl 3 rfl ?_
        obtain ⟨r34, q35, h⟩ := h
        refine m_getr f_X11_71 rfl dX11_steps_98 q1 q35 ?_
        refine m_iload dX11_steps_101 7 rfl ?_
        obtain ⟨q36, h⟩ := h
        refine m_lald dX11_steps_103 q36 ?_
        refine m_lmul dX11_steps_104 ?_
        refine m_ladd dX11_steps_105 ?_
        obtain ⟨q37, h⟩ := h
        refine m_last dX11_steps_106 q37 ?_
        refine m_goto (tgt := 257) dX11_steps_107 (by decide) ?_
        refine m_iinc (v := x4 + 1) (lv' := [(4, .int (x4 + 1)), (7, .int v30), (6, .int xv6), (5, .int xv5), (0, .ref a0), (1, .int x1), (2, .int x2), (3, .int x3)]) dX11_steps_257 7 rfl rfl (by decide) rfl ?_
        refine m_goto (tgt := 29) dX11_steps_260 (by decide) ?_
        exact m_sub [4, 5, 6, 7, 0] rfl h
    · rw [if_pos c1] at h
      refine m_goto (tgt := 257) dX11_steps_50 (by decide) ?_
      refine m_iinc (v := x4 + 1) (lv' := [(4, .int (x4 + 1)), (0, .ref a0), (1, .int x1), (2, .int x2), (3, .int x3)]) dX11_steps_257 4 rfl rfl (by decide) rfl ?_
      refine m_goto (tgt := 29) dX11_steps_260 (by decide) ?_
      exact m_sub [1, 2, 3, 4, 0] rfl h
set_option maxHeartbeats 4000000 in
set_option maxRecDepth 100000 in
theorem h11_steps_266 {d : Nat} {Th : mT} {Q : Int64 → mM → Prop} {a0 : Nat} {x3 : Int32} {x4 : Int32} {M : mM} (h : if (16 * x3) ≤ x4 then (Th.2.2 a0 = some (.inl 11) ∧ (∃ r2 : Nat, M.2.2 a0 38 = some r2 ∧ (m_ok Th r2 .long ((16 * x3)) ∧ (Q (((M).2.1 r2 (Int32.toNatClampNeg ((16 * x3))))) M)))) else (Th.2.2 a0 = some (.inl 11) ∧ (∃ r6 : Nat, M.2.2 a0 37 = some r6 ∧ (∃ r8 : Nat, M.2.2 a0 38 = some r8 ∧ (m_ok Th r8 .long x4 ∧ (m_okw Th r6 .long x4 ∧ (H11_steps_266 (d + 1) Th Q a0 x3 (x4 + 1) (m_ul M r6 (Int32.toNatClampNeg x4) (((M).2.1 r8 (Int32.toNatClampNeg x4))))))))))) : H11_steps_266 (d + 1) Th Q a0 x3 x4 M := by
  show m_W (d + 1) 0 0 yX11_steps cX11_steps 10 (some .long) (m_ql Th Q) 266 [(0, .ref a0), (3, .int x3), (4, .int x4)] [] Th M 0 0
  refine m_iload dX11_steps_266 2 rfl ?_
  refine m_bipush (v := 16) dX11_steps_268 (by decide) ?_
  refine m_iload_n dX11_steps_270 rfl 1 rfl ?_
  refine m_imul dX11_steps_271 ?_
  refine m_icmp_ge (tgt := 295) dX11_steps_272 (by decide) (fun c1 => ?_) (fun c1 => ?_)
  · rw [if_pos c1] at h
    refine m_aload_n dX11_steps_295 rfl 0 rfl ?_
    obtain ⟨q1, h⟩ := h
    obtain ⟨r2, q3, h⟩ := h
    refine m_getr f_X11_75 rfl dX11_steps_296 q1 q3 ?_
    refine m_bipush (v := 16) dX11_steps_299 (by decide) ?_
    refine m_iload_n dX11_steps_301 rfl 1 rfl ?_
    refine m_imul dX11_steps_302 ?_
    obtain ⟨q4, h⟩ := h
    refine m_lald dX11_steps_303 q4 ?_
    exact m_lreturn dX11_steps_304 rfl ⟨rfl, _, rfl, h⟩
  · rw [if_neg c1] at h
    refine m_aload_n dX11_steps_275 rfl 0 rfl ?_
    obtain ⟨q5, h⟩ := h
    obtain ⟨r6, q7, h⟩ := h
    refine m_getr f_X11_71 rfl dX11_steps_276 q5 q7 ?_
    refine m_iload dX11_steps_279 2 rfl ?_
    refine m_aload_n dX11_steps_281 rfl 0 rfl ?_
    obtain ⟨r8, q9, h⟩ := h
    refine m_getr f_X11_75 rfl dX11_steps_282 q5 q9 ?_
    refine m_iload dX11_steps_285 2 rfl ?_
    obtain ⟨q10, h⟩ := h
    refine m_lald dX11_steps_287 q10 ?_
    obtain ⟨q11, h⟩ := h
    refine m_last dX11_steps_288 q11 ?_
    refine m_iinc (v := x4 + 1) (lv' := [(4, .int (x4 + 1)), (0, .ref a0), (3, .int x3)]) dX11_steps_289 2 rfl rfl (by decide) rfl ?_
    refine m_goto (tgt := 266) dX11_steps_292 (by decide) ?_
    exact m_sub [1, 2, 0] rfl h
set_option maxHeartbeats 4000000 in
set_option maxRecDepth 100000 in
theorem e11_steps {d : Nat} {Th : mT} {Q : Int64 → mM → Prop} {a0 : Nat} {x1 : Int32} {x2 : Int32} {x3 : Int32} {M : mM} (h : H11_steps_3 (d + 1) Th Q a0 x1 x2 x3 0 M) : P11_steps (d + 1) Th a0 x1 x2 x3 M Q := by
  refine m_C.of (by decide +kernel) (Nat.le_of_ble_eq_true rfl) ?_
  show m_W (d + 1) 0 0 yX11_steps cX11_steps 10 (some .long) (m_ql Th Q) 0 [(0, .ref a0), (1, .int x1), (2, .int x2), (3, .int x3)] [] Th M 0 0
  refine m_iconst (v := 0) dX11_steps_0 (by decide) ?_
  refine m_istore (lv' := [(4, .int 0), (0, .ref a0), (1, .int x1), (2, .int x2), (3, .int x3)]) dX11_steps_1 (by decide) rfl ?_
  exact m_sub [1, 2, 3, 4, 0] rfl h
set_option maxHeartbeats 4000000 in
set_option maxRecDepth 100000 in
theorem h11_goesAlone_3 {d : Nat} {Th : mT} {Q : mM → Prop} {a0 : Nat} {x1 : Int32} {x2 : Int32} {x3 : Int32} {x4 : Int32} {x5 : Int32} {M : mM} (h : if (16 * x3) < x5 then (Th.2.2 a0 = some (.inl 11) ∧ (∃ r2 : Nat, M.2.2 a0 37 = some r2 ∧ (m_okw Th r2 .long 0 ∧ (∀ M5 : mM, M5 = m_ul M r2 (Int32.toNatClampNeg 0) 1 → H11_goesAlone_41 (d + 1) Th Q a0 x1 x2 x3 x4 1 (m_ul M5 a0 40 0))))) else (Th.2.2 a0 = some (.inl 11) ∧ (∃ r7 : Nat, M.2.2 a0 37 = some r7 ∧ (m_okw Th r7 .long x5 ∧ (H11_goesAlone_3 (d + 1) Th Q a0 x1 x2 x3 x4 (x5 + 1) (m_ul M r7 (Int32.toNatClampNeg x5) 0)))))) : H11_goesAlone_3 (d + 1) Th Q a0 x1 x2 x3 x4 x5 M := by
  show m_W (d + 1) 0 0 yX11_goesAlone cX11_goesAlone 6 none (m_qv Th Q) 3 [(0, .ref a0), (1, .int x1), (2, .int x2), (3, .int x3), (4, .int x4), (5, .int x5)] [] Th M 0 0
  refine m_iload dX11_goesAlone_3 5 rfl ?_
  refine m_bipush (v := 16) dX11_goesAlone_5 (by decide) ?_
  refine m_iload_n dX11_goesAlone_7 rfl 3 rfl ?_
  refine m_imul dX11_goesAlone_8 ?_
  refine m_icmp_gt (tgt := 26) dX11_goesAlone_9 (by decide) (fun c1 => ?_) (fun c1 => ?_)
  · rw [if_pos c1] at h
    refine m_aload_n dX11_goesAlone_26 rfl 0 rfl ?_
    obtain ⟨q1, h⟩ := h
    obtain ⟨r2, q3, h⟩ := h
    refine m_getr f_X11_71 rfl dX11_goesAlone_27 q1 q3 ?_
    refine m_iconst (v := 0) dX11_goesAlone_30 (by decide) ?_
    refine m_lconst (v := 1) dX11_goesAlone_31 (by decide) ?_
    obtain ⟨q4, h⟩ := h
    refine m_last dX11_goesAlone_32 q4 ?_
    refine m_aload_n dX11_goesAlone_33 rfl 0 rfl ?_
    refine m_lconst (v := 0) dX11_goesAlone_34 (by decide) ?_
    obtain ⟨M5, e_M5⟩ : ∃ M5 : mM, M5 = m_ul M r2 (Int32.toNatClampNeg 0) 1 := ⟨_, rfl⟩
    have h := h M5 e_M5
    rw [← e_M5]
    refine m_putl f_X11_300 (Or.inl rfl) dX11_goesAlone_35 q1 ?_
    refine m_iconst (v := 1) dX11_goesAlone_38 (by decide) ?_
    refine m_istore (lv' := [(5, .int 1), (0, .ref a0), (1, .int x1), (2, .int x2), (3, .int x3), (4, .int x4)]) dX11_goesAlone_39 (by decide) rfl ?_
    exact m_sub [1, 2, 3, 4, 5, 0] rfl h
  · rw [if_neg c1] at h
    refine m_aload_n dX11_goesAlone_12 rfl 0 rfl ?_
    obtain ⟨q6, h⟩ := h
    obtain ⟨r7, q8, h⟩ := h
    refine m_getr f_X11_71 rfl dX11_goesAlone_13 q6 q8 ?_
    refine m_iload dX11_goesAlone_16 5 rfl ?_
    refine m_lconst (v := 0) dX11_goesAlone_18 (by decide) ?_
    obtain ⟨q9, h⟩ := h
    refine m_last dX11_goesAlone_19 q9 ?_
    refine m_iinc (v := x5 + 1) (lv' := [(5, .int (x5 + 1)), (0, .ref a0), (1, .int x1), (2, .int x2), (3, .int x3), (4, .int x4)]) dX11_goesAlone_20 5 rfl rfl (by decide) rfl ?_
    refine m_goto (tgt := 3) dX11_goesAlone_23 (by decide) ?_
    exact m_sub [1, 2, 3, 4, 5, 0] rfl h
set_option maxHeartbeats 4000000 in
set_option maxRecDepth 100000 in
theorem h11_goesAlone_41 {d : Nat} {Th : mT} {Q : mM → Prop} {a0 : Nat} {x1 : Int32} {x2 : Int32} {x3 : Int32} {x4 : Int32} {x5 : Int32} {M : mM} (h : if x4 < x5 then (Q M) else (Th.2.2 a0 = some (.inl 11) ∧ (∃ r2 : Nat, M.2.2 a0 39 = some r2 ∧ (P11_steps d Th a0 x1 x2 x3 M (fun (v5 : Int64) (M4 : mM) => m_okw Th r2 .long x5 ∧ (∀ M7 : mM, M7 = m_ul M4 r2 (Int32.toNatClampNeg x5) v5 → ∃ r8 : Nat, M4.2.2 a0 39 = some r8 ∧ (m_ok Th r8 .long x5 ∧ (H11_goesAlone_41 (d + 1) Th Q a0 x1 x2 x3 x4 (x5 + 1) (m_ul M7 a0 40 (((8 * ((M7).2.1 a0 40)) + ((M7).2.1 r8 (Int32.toNatClampNeg x5))))))))))))) : H11_goesAlone_41 (d + 1) Th Q a0 x1 x2 x3 x4 x5 M := by
  show m_W (d + 1) 0 0 yX11_goesAlone cX11_goesAlone 6 none (m_qv Th Q) 41 [(0, .ref a0), (1, .int x1), (2, .int x2), (3, .int x3), (4, .int x4), (5, .int x5)] [] Th M 0 0
  refine m_iload dX11_goesAlone_41 5 rfl ?_
  refine m_iload dX11_goesAlone_43 4 rfl ?_
  refine m_icmp_gt (tgt := 88) dX11_goesAlone_45 (by decide) (fun c1 => ?_) (fun c1 => ?_)
  · rw [if_pos c1] at h
    exact m_return dX11_goesAlone_88 rfl ⟨rfl, rfl, h⟩
  · rw [if_neg c1] at h
    refine m_aload_n dX11_goesAlone_48 rfl 0 rfl ?_
    obtain ⟨q1, h⟩ := h
    obtain ⟨r2, q3, h⟩ := h
    refine m_getr f_X11_78 rfl dX11_goesAlone_49 q1 q3 ?_
    refine m_iload dX11_goesAlone_52 5 rfl ?_
    refine m_aload_n dX11_goesAlone_54 rfl 0 rfl ?_
    refine m_iload_n dX11_goesAlone_55 rfl 1 rfl ?_
    refine m_iload_n dX11_goesAlone_56 rfl 2 rfl ?_
    refine m_iload_n dX11_goesAlone_57 rfl 3 rfl ?_
    refine m_invV (ci := 11) (As := [.int x1, .int x2, .int x3]) (d' := d) (mc' := 0) (ms' := 0) (rest := [.int x5, .ref r2]) i_11_steps v_11_steps t_11_steps l_X11_304 ⟨_, _, rfl⟩ dX11_goesAlone_58 rfl rfl q1 (Nat.le_of_ble_eq_true rfl) (Nat.le_refl _) ⟨Nat.le_refl _, Nat.le_refl _⟩ (m_Cl h (fun v5 M4 h => ?_))
    show m_W (d + 1) 0 0 yX11_goesAlone cX11_goesAlone 6 none (m_qv Th Q) 61 [(0, .ref a0), (1, .int x1), (2, .int x2), (3, .int x3), (4, .int x4), (5, .int x5)] [.long v5, .int x5, .ref r2] Th M4 0 0
    obtain ⟨q6, h⟩ := h
    refine m_last dX11_goesAlone_61 q6 ?_
    refine m_aload_n dX11_goesAlone_62 rfl 0 rfl ?_
    refine m_ldc2 k_X11_295 dX11_goesAlone_63 ?_
    refine m_aload_n dX11_goesAlone_66 rfl 0 rfl ?_
    obtain ⟨M7, e_M7⟩ : ∃ M7 : mM, M7 = m_ul M4 r2 (Int32.toNatClampNeg x5) v5 := ⟨_, rfl⟩
    have h := h M7 e_M7
    rw [← e_M7]
    refine m_getl f_X11_300 dX11_goesAlone_67 q1 ?_
    refine m_lmul dX11_goesAlone_70 ?_
    refine m_aload_n dX11_goesAlone_71 rfl 0 rfl ?_
    obtain ⟨r8, q9, h⟩ := h
    refine m_getr f_X11_78 rfl dX11_goesAlone_72 q1 (by rw [e_M7]; exact q9) ?_
    refine m_iload dX11_goesAlone_75 5 rfl ?_
    obtain ⟨q10, h⟩ := h
    refine m_lald dX11_goesAlone_77 q10 ?_
    refine m_ladd dX11_goesAlone_78 ?_
    refine m_putl f_X11_300 (Or.inl rfl) dX11_goesAlone_79 q1 ?_
    refine m_iinc (v := x5 + 1) (lv' := [(5, .int (x5 + 1)), (0, .ref a0), (1, .int x1), (2, .int x2), (3, .int x3), (4, .int x4)]) dX11_goesAlone_82 5 rfl rfl (by decide) rfl ?_
    refine m_goto (tgt := 41) dX11_goesAlone_85 (by decide) ?_
    exact m_sub [1, 2, 3, 4, 5, 0] rfl h
set_option maxHeartbeats 4000000 in
set_option maxRecDepth 100000 in
theorem e11_goesAlone {d : Nat} {Th : mT} {Q : mM → Prop} {a0 : Nat} {x1 : Int32} {x2 : Int32} {x3 : Int32} {x4 : Int32} {M : mM} (h : H11_goesAlone_3 (d + 1) Th Q a0 x1 x2 x3 x4 0 M) : P11_goesAlone (d + 1) Th a0 x1 x2 x3 x4 M Q := by
  refine m_C.of (by decide +kernel) (Nat.le_of_ble_eq_true rfl) ?_
  show m_W (d + 1) 0 0 yX11_goesAlone cX11_goesAlone 6 none (m_qv Th Q) 0 [(0, .ref a0), (1, .int x1), (2, .int x2), (3, .int x3), (4, .int x4)] [] Th M 0 0
  refine m_iconst (v := 0) dX11_goesAlone_0 (by decide) ?_
  refine m_istore (lv' := [(5, .int 0), (0, .ref a0), (1, .int x1), (2, .int x2), (3, .int x3), (4, .int x4)]) dX11_goesAlone_1 (by decide) rfl ?_
  exact m_sub [1, 2, 3, 4, 5, 0] rfl h
set_option maxHeartbeats 4000000 in
set_option maxRecDepth 100000 in
theorem h11_ways_52 {d : Nat} {Th : mT} {Q : Int64 → mM → Prop} {a0 : Nat} {x1 : Int32} {x2 : Int32} {x3 : Int32} {M : mM} (h : Th.2.2 a0 = some (.inl 11) ∧ (∃ r2 : Nat, M.2.2 a0 8 = some r2 ∧ (m_ok Th r2 .int x1 ∧ (P11_goesAlone d Th a0 x1 (((M).1 r2 (Int32.toNatClampNeg x1))) (((M).1 a0 0)) x2 M (fun M5 : mM => if x3 ≤ 4 then (∀ lv7 : Int64, lv7 = ((M5).2.1 a0 40) → ∀ xv8 : Int32, xv8 = (16 * x3) → H11_ways_104 (d + 1) Th Q a0 lv7 xv8 M5) else (if x3 = 5 then (Q (((M5).2.1 a0 40)) M5) else (∃ r9 : Nat, M5.2.2 a0 39 = some r9 ∧ (m_ok Th r9 .long x2 ∧ (Q (((M5).2.1 r9 (Int32.toNatClampNeg x2))) M5))))))))) : H11_ways_52 (d + 1) Th Q a0 x1 x2 x3 M := by
  show m_W (d + 1) 0 0 yX11_ways cX11_ways 7 (some .long) (m_ql Th Q) 52 [(0, .ref a0), (1, .int x1), (2, .int x2), (3, .int x3)] [] Th M 0 0
  refine m_aload_n dX11_ways_52 rfl 0 rfl ?_
  refine m_iload_n dX11_ways_53 rfl 1 rfl ?_
  refine m_aload_n dX11_ways_54 rfl 0 rfl ?_
  obtain ⟨q1, h⟩ := h
  obtain ⟨r2, q3, h⟩ := h
  refine m_getr f_X11_19 rfl dX11_ways_55 q1 q3 ?_
  refine m_iload_n dX11_ways_58 rfl 1 rfl ?_
  obtain ⟨q4, h⟩ := h
  refine m_iald dX11_ways_59 q4 ?_
  refine m_aload_n dX11_ways_60 rfl 0 rfl ?_
  refine m_geti f_X11_141 rfl dX11_ways_61 q1 ?_
  refine m_iload_n dX11_ways_64 rfl 2 rfl ?_
  refine m_invV (ci := 11) (As := [.int x1, .int (((M).1 r2 (Int32.toNatClampNeg x1))), .int (((M).1 a0 0)), .int x2]) (d' := d) (mc' := 0) (ms' := 0) (rest := []) i_11_goesAlone v_11_goesAlone t_11_goesAlone l_X11_310 ⟨_, _, rfl⟩ dX11_ways_65 rfl rfl q1 (Nat.le_of_ble_eq_true rfl) (Nat.le_refl _) ⟨Nat.le_refl _, Nat.le_refl _⟩ (m_Cv h (fun M5 h => ?_))
  show m_W (d + 1) 0 0 yX11_ways cX11_ways 7 (some .long) (m_ql Th Q) 68 [(0, .ref a0), (1, .int x1), (2, .int x2), (3, .int x3)] [] Th M5 0 0
  refine m_iload_n dX11_ways_68 rfl 3 rfl ?_
  refine m_iconst (v := 4) dX11_ways_69 (by decide) ?_
  refine m_icmp_le (tgt := 92) dX11_ways_70 (by decide) (fun c1 => ?_) (fun c1 => ?_)
  · rw [if_pos c1] at h
    refine m_aload_n dX11_ways_92 rfl 0 rfl ?_
    refine m_getl f_X11_300 dX11_ways_93 q1 ?_
    obtain ⟨lv7, e_lv7⟩ : ∃ lv7 : Int64, lv7 = ((M5).2.1 a0 40) := ⟨_, rfl⟩
    have h := h lv7 e_lv7
    rw [← e_lv7]
    refine m_lstore (lv' := [(4, .long lv7), (0, .ref a0), (1, .int x1), (2, .int x2), (3, .int x3)]) dX11_ways_96 (by decide) rfl ?_
    refine m_bipush (v := 16) dX11_ways_98 (by decide) ?_
    refine m_iload_n dX11_ways_100 rfl 4 rfl ?_
    refine m_imul dX11_ways_101 ?_
    obtain ⟨xv8, e_xv8⟩ : ∃ xv8 : Int32, xv8 = (16 * x3) := ⟨_, rfl⟩
    have h := h xv8 e_xv8
    rw [← e_xv8]
    refine m_istore (lv' := [(6, .int xv8), (4, .long lv7), (0, .ref a0), (1, .int x1), (2, .int x2), (3, .int x3)]) dX11_ways_102 (by decide) rfl ?_
    exact m_sub [2, 1, 0] rfl h
  · rw [if_neg c1] at h
    refine m_iload_n dX11_ways_73 rfl 3 rfl ?_
    refine m_iconst (v := 5) dX11_ways_74 (by decide) ?_
    refine m_icmp_ne (tgt := 85) dX11_ways_75 (by decide) (fun c1 => ?_) (fun c1 => ?_)
    · rw [if_neg c1] at h
      refine m_aload_n dX11_ways_85 rfl 0 rfl ?_
      obtain ⟨r9, q10, h⟩ := h
      refine m_getr f_X11_78 rfl dX11_ways_86 q1 q10 ?_
      refine m_iload_n dX11_ways_89 rfl 2 rfl ?_
      obtain ⟨q11, h⟩ := h
      refine m_lald dX11_ways_90 q11 ?_
      exact m_lreturn dX11_ways_91 rfl ⟨rfl, _, rfl, h⟩
    · rw [if_pos c1] at h
      refine m_aload_n dX11_ways_78 rfl 0 rfl ?_
      refine m_getl f_X11_300 dX11_ways_79 q1 ?_
      refine m_goto (tgt := 91) dX11_ways_82 (by decide) ?_
      exact m_lreturn dX11_ways_91 rfl ⟨rfl, _, rfl, h⟩
set_option maxHeartbeats 4000000 in
set_option maxRecDepth 100000 in
theorem h11_ways_104 {d : Nat} {Th : mT} {Q : Int64 → mM → Prop} {a0 : Nat} {l4 : Int64} {x6 : Int32} {M : mM} (h : Th.2.2 a0 = some (.inl 11) ∧ (if (16 * ((M).1 a0 0)) ≤ x6 then (Q l4 M) else (∃ r2 : Nat, M.2.2 a0 37 = some r2 ∧ (m_ok Th r2 .long x6 ∧ (∀ lv5 : Int64, lv5 = (l4 + ((M).2.1 r2 (Int32.toNatClampNeg x6))) → H11_ways_104 (d + 1) Th Q a0 lv5 (x6 + 1) M))))) : H11_ways_104 (d + 1) Th Q a0 l4 x6 M := by
  show m_W (d + 1) 0 0 yX11_ways cX11_ways 7 (some .long) (m_ql Th Q) 104 [(0, .ref a0), (4, .long l4), (6, .int x6)] [] Th M 0 0
  refine m_iload dX11_ways_104 2 rfl ?_
  refine m_bipush (v := 16) dX11_ways_106 (by decide) ?_
  refine m_aload_n dX11_ways_108 rfl 0 rfl ?_
  obtain ⟨q1, h⟩ := h
  refine m_geti f_X11_141 rfl dX11_ways_109 q1 ?_
  refine m_imul dX11_ways_112 ?_
  refine m_icmp_ge (tgt := 134) dX11_ways_113 (by decide) (fun c1 => ?_) (fun c1 => ?_)
  · rw [if_pos c1] at h
    refine m_lload dX11_ways_134 1 rfl ?_
    exact m_lreturn dX11_ways_136 rfl ⟨rfl, _, rfl, h⟩
  · rw [if_neg c1] at h
    refine m_lload dX11_ways_116 1 rfl ?_
    refine m_aload_n dX11_ways_118 rfl 0 rfl ?_
    obtain ⟨r2, q3, h⟩ := h
    refine m_getr f_X11_71 rfl dX11_ways_119 q1 q3 ?_
    refine m_iload dX11_ways_122 2 rfl ?_
    obtain ⟨q4, h⟩ := h
    refine m_lald dX11_ways_124 q4 ?_
    refine m_ladd dX11_ways_125 ?_
    obtain ⟨lv5, e_lv5⟩ : ∃ lv5 : Int64, lv5 = (l4 + ((M).2.1 r2 (Int32.toNatClampNeg x6))) := ⟨_, rfl⟩
    have h := h lv5 e_lv5
    rw [← e_lv5]
    refine m_lstore (lv' := [(4, .long lv5), (0, .ref a0), (6, .int x6)]) dX11_ways_126 (by decide) rfl ?_
    refine m_iinc (v := x6 + 1) (lv' := [(6, .int (x6 + 1)), (4, .long lv5), (0, .ref a0)]) dX11_ways_128 2 rfl rfl (by decide) rfl ?_
    refine m_goto (tgt := 104) dX11_ways_131 (by decide) ?_
    exact m_sub [2, 1, 0] rfl h
set_option maxHeartbeats 4000000 in
set_option maxRecDepth 100000 in
theorem e11_ways {d : Nat} {Th : mT} {Q : Int64 → mM → Prop} {a0 : Nat} {x1 : Int32} {x2 : Int32} {x3 : Int32} {M : mM} (h : Th.2.2 a0 = some (.inl 11) ∧ (P11_isBand d Th a0 x1 M (fun (v2 : Int32) (M1 : mM) => if v2 = 0 then (Q (-1) M1) else (if ((M1).1 a0 0) = 0 then (Q (-1) M1) else (P11_in d Th x2 1 10 M1 (fun (v5 : Int32) (M4 : mM) => if v5 = 0 then (Q (-1) M4) else (P11_in d Th x3 0 6 M4 (fun (v7 : Int32) (M6 : mM) => if v7 = 0 then (Q (-1) M6) else (if 5 ≤ x3 then (H11_ways_52 (d + 1) Th Q a0 x1 x2 x3 M6) else (P11_isRiddle d Th a0 x3 M6 (fun (v9 : Int32) (M8 : mM) => if v9 = 0 then (Q (-1) M8) else (H11_ways_52 (d + 1) Th Q a0 x1 x2 x3 M8)))))))))))) : P11_ways (d + 1) Th a0 x1 x2 x3 M Q := by
  refine m_C.of (by decide +kernel) (Nat.le_of_ble_eq_true rfl) ?_
  show m_W (d + 1) 0 0 yX11_ways cX11_ways 7 (some .long) (m_ql Th Q) 0 [(0, .ref a0), (1, .int x1), (2, .int x2), (3, .int x3)] [] Th M 0 0
  refine m_aload_n dX11_ways_0 rfl 0 rfl ?_
  refine m_iload_n dX11_ways_1 rfl 1 rfl ?_
  obtain ⟨q3, h⟩ := h
  refine m_invV (ci := 11) (As := [.int x1]) (d' := d) (mc' := 0) (ms' := 0) (rest := []) i_11_isBand v_11_isBand t_11_isBand l_X11_144 ⟨_, _, rfl⟩ dX11_ways_2 rfl rfl q3 (Nat.le_of_ble_eq_true rfl) (Nat.le_refl _) ⟨Nat.le_refl _, Nat.le_refl _⟩ (m_Ci h (fun v2 M1 h => ?_))
  show m_W (d + 1) 0 0 yX11_ways cX11_ways 7 (some .long) (m_ql Th Q) 5 [(0, .ref a0), (1, .int x1), (2, .int x2), (3, .int x3)] [.int v2] Th M1 0 0
  refine m_if_eq (tgt := 48) dX11_ways_5 (by decide) (fun c1 => ?_) (fun c1 => ?_)
  · rw [if_pos c1] at h
    refine m_ldc2 k_X11_308 dX11_ways_48 ?_
    exact m_lreturn dX11_ways_51 rfl ⟨rfl, _, rfl, h⟩
  · rw [if_neg c1] at h
    refine m_aload_n dX11_ways_8 rfl 0 rfl ?_
    refine m_geti f_X11_141 rfl dX11_ways_9 q3 ?_
    refine m_if_eq (tgt := 48) dX11_ways_12 (by decide) (fun c1 => ?_) (fun c1 => ?_)
    · rw [if_pos c1] at h
      refine m_ldc2 k_X11_308 dX11_ways_48 ?_
      exact m_lreturn dX11_ways_51 rfl ⟨rfl, _, rfl, h⟩
    · rw [if_neg c1] at h
      refine m_iload_n dX11_ways_15 rfl 2 rfl ?_
      refine m_iconst (v := 1) dX11_ways_16 (by decide) ?_
      refine m_bipush (v := 10) dX11_ways_17 (by decide) ?_
      refine m_invS (As := [.int x2, .int 1, .int 10]) (d' := d) (mc' := 0) (ms' := 0) (rest := []) i_11_in s_11_in l_X11_148 dX11_ways_19 rfl rfl (Nat.le_of_ble_eq_true rfl) (Nat.le_refl _) ⟨Nat.le_refl _, Nat.le_refl _⟩ (m_Ci h (fun v5 M4 h => ?_))
      show m_W (d + 1) 0 0 yX11_ways cX11_ways 7 (some .long) (m_ql Th Q) 22 [(0, .ref a0), (1, .int x1), (2, .int x2), (3, .int x3)] [.int v5] Th M4 0 0
      refine m_if_eq (tgt := 48) dX11_ways_22 (by decide) (fun c1 => ?_) (fun c1 => ?_)
      · rw [if_pos c1] at h
        refine m_ldc2 k_X11_308 dX11_ways_48 ?_
        exact m_lreturn dX11_ways_51 rfl ⟨rfl, _, rfl, h⟩
      · rw [if_neg c1] at h
        refine m_iload_n dX11_ways_25 rfl 3 rfl ?_
        refine m_iconst (v := 0) dX11_ways_26 (by decide) ?_
        refine m_bipush (v := 6) dX11_ways_27 (by decide) ?_
        refine m_invS (As := [.int x3, .int 0, .int 6]) (d' := d) (mc' := 0) (ms' := 0) (rest := []) i_11_in s_11_in l_X11_148 dX11_ways_29 rfl rfl (Nat.le_of_ble_eq_true rfl) (Nat.le_refl _) ⟨Nat.le_refl _, Nat.le_refl _⟩ (m_Ci h (fun v7 M6 h => ?_))
        show m_W (d + 1) 0 0 yX11_ways cX11_ways 7 (some .long) (m_ql Th Q) 32 [(0, .ref a0), (1, .int x1), (2, .int x2), (3, .int x3)] [.int v7] Th M6 0 0
        refine m_if_eq (tgt := 48) dX11_ways_32 (by decide) (fun c1 => ?_) (fun c1 => ?_)
        · rw [if_pos c1] at h
          refine m_ldc2 k_X11_308 dX11_ways_48 ?_
          exact m_lreturn dX11_ways_51 rfl ⟨rfl, _, rfl, h⟩
        · rw [if_neg c1] at h
          refine m_iload_n dX11_ways_35 rfl 3 rfl ?_
          refine m_iconst (v := 5) dX11_ways_36 (by decide) ?_
          refine m_icmp_ge (tgt := 52) dX11_ways_37 (by decide) (fun c1 => ?_) (fun c1 => ?_)
          · rw [if_pos c1] at h
            exact h
          · rw [if_neg c1] at h
            refine m_aload_n dX11_ways_40 rfl 0 rfl ?_
            refine m_iload_n dX11_ways_41 rfl 3 rfl ?_
            refine m_invV (ci := 11) (As := [.int x3]) (d' := d) (mc' := 0) (ms' := 0) (rest := []) i_11_isRiddle v_11_isRiddle t_11_isRiddle l_X11_166 ⟨_, _, rfl⟩ dX11_ways_42 rfl rfl q3 (Nat.le_of_ble_eq_true rfl) (Nat.le_refl _) ⟨Nat.le_refl _, Nat.le_refl _⟩ (m_Ci h (fun v9 M8 h => ?_))
            show m_W (d + 1) 0 0 yX11_ways cX11_ways 7 (some .long) (m_ql Th Q) 45 [(0, .ref a0), (1, .int x1), (2, .int x2), (3, .int x3)] [.int v9] Th M8 0 0
            refine m_if_ne (tgt := 52) dX11_ways_45 (by decide) (fun c1 => ?_) (fun c1 => ?_)
            · rw [if_neg c1] at h
              exact h
            · rw [if_pos c1] at h
              refine m_ldc2 k_X11_308 dX11_ways_48 ?_
              exact m_lreturn dX11_ways_51 rfl ⟨rfl, _, rfl, h⟩
set_option maxHeartbeats 4000000 in
set_option maxRecDepth 100000 in
theorem h11_eights_4 {d : Nat} {Th : mT} {Q : Int64 → mM → Prop} {x0 : Int32} {l1 : Int64} {x3 : Int32} {M : mM} (h : if x0 ≤ x3 then (Q l1 M) else (∀ lv1 : Int64, lv1 = (l1 * 8) → H11_eights_4 (d + 1) Th Q x0 lv1 (x3 + 1) M)) : H11_eights_4 (d + 1) Th Q x0 l1 x3 M := by
  show m_W (d + 1) 0 0 yX11_eights cX11_eights 4 (some .long) (m_ql Th Q) 4 [(0, .int x0), (1, .long l1), (3, .int x3)] [] Th M 0 0
  refine m_iload_n dX11_eights_4 rfl 2 rfl ?_
  refine m_iload_n dX11_eights_5 rfl 0 rfl ?_
  refine m_icmp_ge (tgt := 21) dX11_eights_6 (by decide) (fun c1 => ?_) (fun c1 => ?_)
  · rw [if_pos c1] at h
    refine m_lload_n dX11_eights_21 rfl 1 rfl ?_
    exact m_lreturn dX11_eights_22 rfl ⟨rfl, _, rfl, h⟩
  · rw [if_neg c1] at h
    refine m_lload_n dX11_eights_9 rfl 1 rfl ?_
    refine m_ldc2 k_X11_295 dX11_eights_10 ?_
    refine m_lmul dX11_eights_13 ?_
    obtain ⟨lv1, e_lv1⟩ : ∃ lv1 : Int64, lv1 = (l1 * 8) := ⟨_, rfl⟩
    have h := h lv1 e_lv1
    rw [← e_lv1]
    refine m_lstore_n (lv' := [(1, .long lv1), (0, .int x0), (3, .int x3)]) dX11_eights_14 rfl (by decide) rfl ?_
    refine m_iinc (v := x3 + 1) (lv' := [(3, .int (x3 + 1)), (1, .long lv1), (0, .int x0)]) dX11_eights_15 2 rfl rfl (by decide) rfl ?_
    refine m_goto (tgt := 4) dX11_eights_18 (by decide) ?_
    exact m_sub [2, 1, 0] rfl h
set_option maxHeartbeats 4000000 in
set_option maxRecDepth 100000 in
theorem e11_eights {d : Nat} {Th : mT} {Q : Int64 → mM → Prop} {x0 : Int32} {M : mM} (h : H11_eights_4 (d + 1) Th Q x0 1 0 M) : P11_eights (d + 1) Th x0 M Q := by
  refine m_C.of (by decide +kernel) (Nat.le_of_ble_eq_true rfl) ?_
  show m_W (d + 1) 0 0 yX11_eights cX11_eights 4 (some .long) (m_ql Th Q) 0 [(0, .int x0)] [] Th M 0 0
  refine m_lconst (v := 1) dX11_eights_0 (by decide) ?_
  refine m_lstore_n (lv' := [(1, .long 1), (0, .int x0)]) dX11_eights_1 rfl (by decide) rfl ?_
  refine m_iconst (v := 0) dX11_eights_2 (by decide) ?_
  refine m_istore_n (lv' := [(3, .int 0), (1, .long 1), (0, .int x0)]) dX11_eights_3 rfl (by decide) rfl ?_
  exact m_sub [2, 1, 0] rfl h
set_option maxHeartbeats 4000000 in
set_option maxRecDepth 100000 in
theorem h11_gcd_6 {d : Nat} {Th : mT} {Q : Int64 → mM → Prop} {l4 : Int64} {l6 : Int64} {M : mM} (h : if (lg_cmp l6 0) = 0 then (Q l4 M) else (¬ (l6 = 0) ∧ (∀ lv2 : Int64, lv2 = (l4 - l4 / l6 * l6) → H11_gcd_6 (d + 1) Th Q l6 lv2 M))) : H11_gcd_6 (d + 1) Th Q l4 l6 M := by
  show m_W (d + 1) 0 0 yX11_gcd cX11_gcd 10 (some .long) (m_ql Th Q) 6 [(4, .long l4), (6, .long l6)] [] Th M 0 0
  refine m_lload dX11_gcd_6 1 rfl ?_
  refine m_lconst (v := 0) dX11_gcd_8 (by decide) ?_
  refine m_lcmp dX11_gcd_9 ?_
  refine m_if_eq (tgt := 31) dX11_gcd_10 (by decide) (fun c1 => ?_) (fun c1 => ?_)
  · rw [if_pos c1] at h
    refine m_lload dX11_gcd_31 0 rfl ?_
    exact m_lreturn dX11_gcd_33 rfl ⟨rfl, _, rfl, h⟩
  · rw [if_neg c1] at h
    refine m_lload dX11_gcd_13 0 rfl ?_
    refine m_lload dX11_gcd_15 1 rfl ?_
    obtain ⟨q1, h⟩ := h
    refine m_lrem dX11_gcd_17 q1 ?_
    obtain ⟨lv2, e_lv2⟩ : ∃ lv2 : Int64, lv2 = (l4 - l4 / l6 * l6) := ⟨_, rfl⟩
    have h := h lv2 e_lv2
    rw [← e_lv2]
    refine m_lstore (lv' := [(8, .long lv2), (4, .long l4), (6, .long l6)]) dX11_gcd_18 (by decide) rfl ?_
    refine m_lload dX11_gcd_20 2 rfl ?_
    refine m_lstore (lv' := [(4, .long l6), (8, .long lv2), (6, .long l6)]) dX11_gcd_22 (by decide) rfl ?_
    refine m_lload dX11_gcd_24 1 rfl ?_
    refine m_lstore (lv' := [(6, .long lv2), (4, .long l6), (8, .long lv2)]) dX11_gcd_26 (by decide) rfl ?_
    refine m_goto (tgt := 6) dX11_gcd_28 (by decide) ?_
    exact m_sub [1, 0] rfl h
set_option maxHeartbeats 4000000 in
set_option maxRecDepth 100000 in
theorem e11_gcd {d : Nat} {Th : mT} {Q : Int64 → mM → Prop} {l0 : Int64} {l2 : Int64} {M : mM} (h : H11_gcd_6 (d + 1) Th Q l0 l2 M) : P11_gcd (d + 1) Th l0 l2 M Q := by
  refine m_C.of (by decide +kernel) (Nat.le_of_ble_eq_true rfl) ?_
  show m_W (d + 1) 0 0 yX11_gcd cX11_gcd 10 (some .long) (m_ql Th Q) 0 [(0, .long l0), (2, .long l2)] [] Th M 0 0
  refine m_lload_n dX11_gcd_0 rfl 0 rfl ?_
  refine m_lstore (lv' := [(4, .long l0), (0, .long l0), (2, .long l2)]) dX11_gcd_1 (by decide) rfl ?_
  refine m_lload_n dX11_gcd_3 rfl 2 rfl ?_
  refine m_lstore (lv' := [(6, .long l2), (4, .long l0), (0, .long l0), (2, .long l2)]) dX11_gcd_4 (by decide) rfl ?_
  exact m_sub [1, 0] rfl h
set_option maxHeartbeats 4000000 in
set_option maxRecDepth 100000 in
theorem h11_races_17 {d : Nat} {Th : mT} {Q : mM → Prop} {a0 : Nat} {x2 : Int32} {x3 : Int32} {x4 : Int32} {M : mM} (h : if 10 < x4 then (Th.2.2 a0 = some (.inl 11) ∧ (∃ r2 : Nat, M.2.2 a0 8 = some r2 ∧ (m_ok Th r2 .int x2 ∧ (P11_goesAlone d Th a0 x2 (((M).1 r2 (Int32.toNatClampNeg x2))) x3 10 M (fun M5 : mM => ∀ M7 : mM, M7 = m_ul M5 a0 42 0 → P11_eights d Th 10 (m_ul M7 a0 43 0) (fun (v9 : Int64) (M8 : mM) => H11_races_87 (d + 1) Th Q a0 v9 1 M8)))))) else (Th.2.2 a0 = some (.inl 11) ∧ (∃ r11 : Nat, M.2.2 a0 41 = some r11 ∧ (∃ r13 : Nat, M.2.2 a0 39 = some r13 ∧ (m_ok Th r13 .long x4 ∧ (P11_eights d Th ((10 - x4)) M (fun (v17 : Int64) (M16 : mM) => m_okw Th r11 .long x4 ∧ (H11_races_17 (d + 1) Th Q a0 x2 x3 (x4 + 1) (m_ul M16 r11 (Int32.toNatClampNeg x4) ((((M).2.1 r13 (Int32.toNatClampNeg x4)) * v17))))))))))) : H11_races_17 (d + 1) Th Q a0 x2 x3 x4 M := by
  show m_W (d + 1) 0 0 yX11_races cX11_races 9 none (m_qv Th Q) 17 [(0, .ref a0), (2, .int x2), (3, .int x3), (4, .int x4)] [] Th M 0 0
  refine m_iload dX11_races_17 3 rfl ?_
  refine m_bipush (v := 10) dX11_races_19 (by decide) ?_
  refine m_icmp_gt (tgt := 53) dX11_races_21 (by decide) (fun c1 => ?_) (fun c1 => ?_)
  · rw [if_pos c1] at h
    refine m_aload_n dX11_races_53 rfl 0 rfl ?_
    refine m_iload_n dX11_races_54 rfl 1 rfl ?_
    refine m_aload_n dX11_races_55 rfl 0 rfl ?_
    obtain ⟨q1, h⟩ := h
    obtain ⟨r2, q3, h⟩ := h
    refine m_getr f_X11_19 rfl dX11_races_56 q1 q3 ?_
    refine m_iload_n dX11_races_59 rfl 1 rfl ?_
    obtain ⟨q4, h⟩ := h
    refine m_iald dX11_races_60 q4 ?_
    refine m_iload_n dX11_races_61 rfl 2 rfl ?_
    refine m_bipush (v := 10) dX11_races_62 (by decide) ?_
    refine m_invV (ci := 11) (As := [.int x2, .int (((M).1 r2 (Int32.toNatClampNeg x2))), .int x3, .int 10]) (d' := d) (mc' := 0) (ms' := 0) (rest := []) i_11_goesAlone v_11_goesAlone t_11_goesAlone l_X11_310 ⟨_, _, rfl⟩ dX11_races_64 rfl rfl q1 (Nat.le_of_ble_eq_true rfl) (Nat.le_refl _) ⟨Nat.le_refl _, Nat.le_refl _⟩ (m_Cv h (fun M5 h => ?_))
    show m_W (d + 1) 0 0 yX11_races cX11_races 9 none (m_qv Th Q) 67 [(0, .ref a0), (2, .int x2), (3, .int x3), (4, .int x4)] [] Th M5 0 0
    refine m_aload_n dX11_races_67 rfl 0 rfl ?_
    refine m_lconst (v := 0) dX11_races_68 (by decide) ?_
    refine m_putl f_X11_317 (Or.inl rfl) dX11_races_69 q1 ?_
    refine m_aload_n dX11_races_72 rfl 0 rfl ?_
    refine m_lconst (v := 0) dX11_races_73 (by decide) ?_
    obtain ⟨M7, e_M7⟩ : ∃ M7 : mM, M7 = m_ul M5 a0 42 0 := ⟨_, rfl⟩
    have h := h M7 e_M7
    rw [← e_M7]
    refine m_putl f_X11_320 (Or.inl rfl) dX11_races_74 q1 ?_
    refine m_bipush (v := 10) dX11_races_77 (by decide) ?_
    refine m_invS (As := [.int 10]) (d' := d) (mc' := 0) (ms' := 0) (rest := []) i_11_eights s_11_eights l_X11_313 dX11_races_79 rfl rfl (Nat.le_of_ble_eq_true rfl) (Nat.le_refl _) ⟨Nat.le_refl _, Nat.le_refl _⟩ (m_Cl h (fun v9 M8 h => ?_))
    show m_W (d + 1) 0 0 yX11_races cX11_races 9 none (m_qv Th Q) 82 [(0, .ref a0), (2, .int x2), (3, .int x3), (4, .int x4)] [.long v9] Th M8 0 0
    refine m_lstore (lv' := [(4, .long v9), (0, .ref a0), (2, .int x2), (3, .int x3)]) dX11_races_82 (by decide) rfl ?_
    refine m_iconst (v := 1) dX11_races_84 (by decide) ?_
    refine m_istore (lv' := [(6, .int 1), (4, .long v9), (0, .ref a0), (2, .int x2), (3, .int x3)]) dX11_races_85 (by decide) rfl ?_
    exact m_sub [2, 1, 0] rfl h
  · rw [if_neg c1] at h
    refine m_aload_n dX11_races_24 rfl 0 rfl ?_
    obtain ⟨q10, h⟩ := h
    obtain ⟨r11, q12, h⟩ := h
    refine m_getr f_X11_81 rfl dX11_races_25 q10 q12 ?_
    refine m_iload dX11_races_28 3 rfl ?_
    refine m_aload_n dX11_races_30 rfl 0 rfl ?_
    obtain ⟨r13, q14, h⟩ := h
    refine m_getr f_X11_78 rfl dX11_races_31 q10 q14 ?_
    refine m_iload dX11_races_34 3 rfl ?_
    obtain ⟨q15, h⟩ := h
    refine m_lald dX11_races_36 q15 ?_
    refine m_bipush (v := 10) dX11_races_37 (by decide) ?_
    refine m_iload dX11_races_39 3 rfl ?_
    refine m_isub dX11_races_41 ?_
    refine m_invS (As := [.int ((10 - x4))]) (d' := d) (mc' := 0) (ms' := 0) (rest := [.long (((M).2.1 r13 (Int32.toNatClampNeg x4))), .int x4, .ref r11]) i_11_eights s_11_eights l_X11_313 dX11_races_42 rfl rfl (Nat.le_of_ble_eq_true rfl) (Nat.le_refl _) ⟨Nat.le_refl _, Nat.le_refl _⟩ (m_Cl h (fun v17 M16 h => ?_))
    show m_W (d + 1) 0 0 yX11_races cX11_races 9 none (m_qv Th Q) 45 [(0, .ref a0), (2, .int x2), (3, .int x3), (4, .int x4)] [.long v17, .long (((M).2.1 r13 (Int32.toNatClampNeg x4))), .int x4, .ref r11] Th M16 0 0
    refine m_lmul dX11_races_45 ?_
    obtain ⟨q18, h⟩ := h
    refine m_last dX11_races_46 q18 ?_
    refine m_iinc (v := x4 + 1) (lv' := [(4, .int (x4 + 1)), (0, .ref a0), (2, .int x2), (3, .int x3)]) dX11_races_47 3 rfl rfl (by decide) rfl ?_
    refine m_goto (tgt := 17) dX11_races_50 (by decide) ?_
    exact m_sub [1, 2, 3, 0] rfl h
set_option maxHeartbeats 4000000 in
set_option maxRecDepth 100000 in
theorem h11_races_87 {d : Nat} {Th : mT} {Q : mM → Prop} {a0 : Nat} {l4 : Int64} {x6 : Int32} {M : mM} (h : if 10 < x6 then (Q M) else (Th.2.2 a0 = some (.inl 11) ∧ (∃ r2 : Nat, M.2.2 a0 39 = some r2 ∧ (m_ok Th r2 .long x6 ∧ (P11_eights d Th ((10 - x6)) M (fun (v6 : Int64) (M5 : mM) => ∀ lv7 : Int64, lv7 = (((M).2.1 r2 (Int32.toNatClampNeg x6)) * v6) → ∀ lv8 : Int64, lv8 = (l4 - lv7) → ∃ r9 : Nat, M5.2.2 a0 41 = some r9 ∧ (m_ok Th r9 .long x6 ∧ (∀ M12 : mM, M12 = m_ul M5 a0 42 ((((M5).2.1 a0 42) + (((M5).2.1 r9 (Int32.toNatClampNeg x6)) * lv8))) → H11_races_87 (d + 1) Th Q a0 lv8 (x6 + 1) (m_ul M12 a0 43 ((((M12).2.1 a0 43) + (((M12).2.1 r9 (Int32.toNatClampNeg x6)) * lv7)))))))))))) : H11_races_87 (d + 1) Th Q a0 l4 x6 M := by
  show m_W (d + 1) 0 0 yX11_races cX11_races 9 none (m_qv Th Q) 87 [(0, .ref a0), (4, .long l4), (6, .int x6)] [] Th M 0 0
  refine m_iload dX11_races_87 2 rfl ?_
  refine m_bipush (v := 10) dX11_races_89 (by decide) ?_
  refine m_icmp_gt (tgt := 163) dX11_races_91 (by decide) (fun c1 => ?_) (fun c1 => ?_)
  · rw [if_pos c1] at h
    exact m_return dX11_races_163 rfl ⟨rfl, rfl, h⟩
  · rw [if_neg c1] at h
    refine m_aload_n dX11_races_94 rfl 0 rfl ?_
    obtain ⟨q1, h⟩ := h
    obtain ⟨r2, q3, h⟩ := h
    refine m_getr f_X11_78 rfl dX11_races_95 q1 q3 ?_
    refine m_iload dX11_races_98 2 rfl ?_
    obtain ⟨q4, h⟩ := h
    refine m_lald dX11_races_100 q4 ?_
    refine m_bipush (v := 10) dX11_races_101 (by decide) ?_
    refine m_iload dX11_races_103 2 rfl ?_
    refine m_isub dX11_races_105 ?_
    refine m_invS (As := [.int ((10 - x6))]) (d' := d) (mc' := 0) (ms' := 0) (rest := [.long (((M).2.1 r2 (Int32.toNatClampNeg x6)))]) i_11_eights s_11_eights l_X11_313 dX11_races_106 rfl rfl (Nat.le_of_ble_eq_true rfl) (Nat.le_refl _) ⟨Nat.le_refl _, Nat.le_refl _⟩ (m_Cl h (fun v6 M5 h => ?_))
    show m_W (d + 1) 0 0 yX11_races cX11_races 9 none (m_qv Th Q) 109 [(0, .ref a0), (4, .long l4), (6, .int x6)] [.long v6, .long (((M).2.1 r2 (Int32.toNatClampNeg x6)))] Th M5 0 0
    refine m_lmul dX11_races_109 ?_
    obtain ⟨lv7, e_lv7⟩ : ∃ lv7 : Int64, lv7 = (((M).2.1 r2 (Int32.toNatClampNeg x6)) * v6) := ⟨_, rfl⟩
    have h := h lv7 e_lv7
    rw [← e_lv7]
    refine m_lstore (lv' := [(7, .long lv7), (0, .ref a0), (4, .long l4), (6, .int x6)]) dX11_races_110 (by decide) rfl ?_
    refine m_lload dX11_races_112 2 rfl ?_
    refine m_lload dX11_races_114 0 rfl ?_
    refine m_lsub dX11_races_116 ?_
    obtain ⟨lv8, e_lv8⟩ : ∃ lv8 : Int64, lv8 = (l4 - lv7) := ⟨_, rfl⟩
    have h := h lv8 e_lv8
    rw [← e_lv8]
    refine m_lstore (lv' := [(4, .long lv8), (7, .long lv7), (0, .ref a0), (6, .int x6)]) dX11_races_117 (by decide) rfl ?_
    refine m_aload_n dX11_races_119 rfl 2 rfl ?_
    refine m_aload_n dX11_races_120 rfl 2 rfl ?_
    refine m_getl f_X11_317 dX11_races_121 q1 ?_
    refine m_aload_n dX11_races_124 rfl 2 rfl ?_
    obtain ⟨r9, q10, h⟩ := h
    refine m_getr f_X11_81 rfl dX11_races_125 q1 q10 ?_
    refine m_iload dX11_races_128 3 rfl ?_
    obtain ⟨q11, h⟩ := h
    refine m_lald dX11_races_130 q11 ?_
    refine m_lload dX11_races_131 0 rfl ?_
    refine m_lmul dX11_races_133 ?_
    refine m_ladd dX11_races_134 ?_
    refine m_putl f_X11_317 (Or.inl rfl) dX11_races_135 q1 ?_
    refine m_aload_n dX11_races_138 rfl 2 rfl ?_
    refine m_aload_n dX11_races_139 rfl 2 rfl ?_
    obtain ⟨M12, e_M12⟩ : ∃ M12 : mM, M12 = m_ul M5 a0 42 ((((M5).2.1 a0 42) + (((M5).2.1 r9 (Int32.toNatClampNeg x6)) * lv8))) := ⟨_, rfl⟩
    have h := h M12 e_M12
    rw [← e_M12]
    refine m_getl f_X11_320 dX11_races_140 q1 ?_
    refine m_aload_n dX11_races_143 rfl 2 rfl ?_
    refine m_getr f_X11_81 rfl dX11_races_144 q1 (by rw [e_M12]; exact q10) ?_
    refine m_iload dX11_races_147 3 rfl ?_
    refine m_lald dX11_races_149 q11 ?_
    refine m_lload dX11_races_150 1 rfl ?_
    refine m_lmul dX11_races_152 ?_
    refine m_ladd dX11_races_153 ?_
    refine m_putl f_X11_320 (Or.inl rfl) dX11_races_154 q1 ?_
    refine m_iinc (v := x6 + 1) (lv' := [(6, .int (x6 + 1)), (4, .long lv8), (7, .long lv7), (0, .ref a0)]) dX11_races_157 3 rfl rfl (by decide) rfl ?_
    refine m_goto (tgt := 87) dX11_races_160 (by decide) ?_
    exact m_sub [3, 1, 0] rfl h
set_option maxHeartbeats 4000000 in
set_option maxRecDepth 100000 in
theorem e11_races {d : Nat} {Th : mT} {Q : mM → Prop} {a0 : Nat} {x1 : Int32} {x2 : Int32} {x3 : Int32} {M : mM} (h : Th.2.2 a0 = some (.inl 11) ∧ (∃ r2 : Nat, M.2.2 a0 8 = some r2 ∧ (m_ok Th r2 .int x1 ∧ (P11_goesAlone d Th a0 x1 (((M).1 r2 (Int32.toNatClampNeg x1))) x3 10 M (fun M5 : mM => H11_races_17 (d + 1) Th Q a0 x2 x3 1 M5))))) : P11_races (d + 1) Th a0 x1 x2 x3 M Q := by
  refine m_C.of (by decide +kernel) (Nat.le_of_ble_eq_true rfl) ?_
  show m_W (d + 1) 0 0 yX11_races cX11_races 9 none (m_qv Th Q) 0 [(0, .ref a0), (1, .int x1), (2, .int x2), (3, .int x3)] [] Th M 0 0
  refine m_aload_n dX11_races_0 rfl 0 rfl ?_
  refine m_iload_n dX11_races_1 rfl 1 rfl ?_
  refine m_aload_n dX11_races_2 rfl 0 rfl ?_
  obtain ⟨q1, h⟩ := h
  obtain ⟨r2, q3, h⟩ := h
  refine m_getr f_X11_19 rfl dX11_races_3 q1 q3 ?_
  refine m_iload_n dX11_races_6 rfl 1 rfl ?_
  obtain ⟨q4, h⟩ := h
  refine m_iald dX11_races_7 q4 ?_
  refine m_iload_n dX11_races_8 rfl 3 rfl ?_
  refine m_bipush (v := 10) dX11_races_9 (by decide) ?_
  refine m_invV (ci := 11) (As := [.int x1, .int (((M).1 r2 (Int32.toNatClampNeg x1))), .int x3, .int 10]) (d' := d) (mc' := 0) (ms' := 0) (rest := []) i_11_goesAlone v_11_goesAlone t_11_goesAlone l_X11_310 ⟨_, _, rfl⟩ dX11_races_11 rfl rfl q1 (Nat.le_of_ble_eq_true rfl) (Nat.le_refl _) ⟨Nat.le_refl _, Nat.le_refl _⟩ (m_Cv h (fun M5 h => ?_))
  show m_W (d + 1) 0 0 yX11_races cX11_races 9 none (m_qv Th Q) 14 [(0, .ref a0), (1, .int x1), (2, .int x2), (3, .int x3)] [] Th M5 0 0
  refine m_iconst (v := 1) dX11_races_14 (by decide) ?_
  refine m_istore (lv' := [(4, .int 1), (0, .ref a0), (1, .int x1), (2, .int x2), (3, .int x3)]) dX11_races_15 (by decide) rfl ?_
  exact m_sub [1, 3, 4, 0] rfl h
set_option maxHeartbeats 4000000 in
set_option maxRecDepth 100000 in
theorem h11_ahead_48 {d : Nat} {Th : mT} {Q : Int64 → mM → Prop} {x3 : Int32} {s0 : Int64} {M : mM} (h : P11_eights d Th 20 M (fun (v2 : Int64) (M1 : mM) => if (x3 - x3 / 2 * 2) = 0 then (P11_gcd d Th s0 v2 M1 (fun (v4 : Int64) (M3 : mM) => ¬ (v4 = 0) ∧ (Q ((s0 / v4)) M3))) else (P11_gcd d Th s0 v2 M1 (fun (v7 : Int64) (M6 : mM) => ¬ (v7 = 0) ∧ (Q ((v2 / v7)) M6))))) : H11_ahead_48 (d + 1) Th Q x3 s0 M := by
  show m_W (d + 1) 0 0 yX11_ahead cX11_ahead 8 (some .long) (m_ql Th Q) 48 [(3, .int x3)] [.long s0] Th M 0 0
  refine m_lstore (lv' := [(4, .long s0), (3, .int x3)]) dX11_ahead_48 (by decide) rfl ?_
  refine m_bipush (v := 20) dX11_ahead_50 (by decide) ?_
  refine m_invS (As := [.int 20]) (d' := d) (mc' := 0) (ms' := 0) (rest := []) i_11_eights s_11_eights l_X11_313 dX11_ahead_52 rfl rfl (Nat.le_of_ble_eq_true rfl) (Nat.le_refl _) ⟨Nat.le_refl _, Nat.le_refl _⟩ (m_Cl h (fun v2 M1 h => ?_))
  show m_W (d + 1) 0 0 yX11_ahead cX11_ahead 8 (some .long) (m_ql Th Q) 55 [(4, .long s0), (3, .int x3)] [.long v2] Th M1 0 0
  refine m_lstore (lv' := [(6, .long v2), (4, .long s0), (3, .int x3)]) dX11_ahead_55 (by decide) rfl ?_
  refine m_iload_n dX11_ahead_57 rfl 2 rfl ?_
  refine m_iconst (v := 2) dX11_ahead_58 (by decide) ?_
  refine m_irem dX11_ahead_59 (by decide) ?_
  refine m_if_ne (tgt := 76) dX11_ahead_60 (by decide) (fun c1 => ?_) (fun c1 => ?_)
  · rw [if_neg c1] at h
    refine m_lload dX11_ahead_76 0 rfl ?_
    refine m_lload dX11_ahead_78 1 rfl ?_
    refine m_lload dX11_ahead_80 0 rfl ?_
    refine m_invS (As := [.long s0, .long v2]) (d' := d) (mc' := 0) (ms' := 0) (rest := [.long v2]) i_11_gcd s_11_gcd l_X11_330 dX11_ahead_82 rfl rfl (Nat.le_of_ble_eq_true rfl) (Nat.le_refl _) ⟨Nat.le_refl _, Nat.le_refl _⟩ (m_Cl h (fun v7 M6 h => ?_))
    show m_W (d + 1) 0 0 yX11_ahead cX11_ahead 8 (some .long) (m_ql Th Q) 85 [(6, .long v2), (4, .long s0), (3, .int x3)] [.long v7, .long v2] Th M6 0 0
    obtain ⟨q8, h⟩ := h
    refine m_ldiv dX11_ahead_85 q8 ?_
    exact m_lreturn dX11_ahead_86 rfl ⟨rfl, _, rfl, h⟩
  · rw [if_pos c1] at h
    refine m_lload dX11_ahead_63 1 rfl ?_
    refine m_lload dX11_ahead_65 1 rfl ?_
    refine m_lload dX11_ahead_67 0 rfl ?_
    refine m_invS (As := [.long s0, .long v2]) (d' := d) (mc' := 0) (ms' := 0) (rest := [.long s0]) i_11_gcd s_11_gcd l_X11_330 dX11_ahead_69 rfl rfl (Nat.le_of_ble_eq_true rfl) (Nat.le_refl _) ⟨Nat.le_refl _, Nat.le_refl _⟩ (m_Cl h (fun v4 M3 h => ?_))
    show m_W (d + 1) 0 0 yX11_ahead cX11_ahead 8 (some .long) (m_ql Th Q) 72 [(6, .long v2), (4, .long s0), (3, .int x3)] [.long v4, .long s0] Th M3 0 0
    obtain ⟨q5, h⟩ := h
    refine m_ldiv dX11_ahead_72 q5 ?_
    refine m_goto (tgt := 86) dX11_ahead_73 (by decide) ?_
    exact m_lreturn dX11_ahead_86 rfl ⟨rfl, _, rfl, h⟩
set_option maxHeartbeats 4000000 in
set_option maxRecDepth 100000 in
theorem e11_ahead {d : Nat} {Th : mT} {Q : Int64 → mM → Prop} {a0 : Nat} {x1 : Int32} {x2 : Int32} {x3 : Int32} {M : mM} (h : Th.2.2 a0 = some (.inl 11) ∧ (P11_areTwo d Th a0 x1 x2 M (fun (v2 : Int32) (M1 : mM) => if v2 = 0 then (Q (-1) M1) else (P11_in d Th x3 0 3 M1 (fun (v5 : Int32) (M4 : mM) => if v5 = 0 then (Q (-1) M4) else (P11_races d Th a0 x1 x2 (((M4).1 a0 0)) M4 (fun M6 : mM => if 2 ≤ x3 then (H11_ahead_48 (d + 1) Th Q x3 (((M6).2.1 a0 43)) M6) else (H11_ahead_48 (d + 1) Th Q x3 (((M6).2.1 a0 42)) M6)))))))) : P11_ahead (d + 1) Th a0 x1 x2 x3 M Q := by
  refine m_C.of (by decide +kernel) (Nat.le_of_ble_eq_true rfl) ?_
  show m_W (d + 1) 0 0 yX11_ahead cX11_ahead 8 (some .long) (m_ql Th Q) 0 [(0, .ref a0), (1, .int x1), (2, .int x2), (3, .int x3)] [] Th M 0 0
  refine m_aload_n dX11_ahead_0 rfl 0 rfl ?_
  refine m_iload_n dX11_ahead_1 rfl 1 rfl ?_
  refine m_iload_n dX11_ahead_2 rfl 2 rfl ?_
  obtain ⟨q3, h⟩ := h
  refine m_invV (ci := 11) (As := [.int x1, .int x2]) (d' := d) (mc' := 0) (ms' := 0) (rest := []) i_11_areTwo v_11_areTwo t_11_areTwo l_X11_323 ⟨_, _, rfl⟩ dX11_ahead_3 rfl rfl q3 (Nat.le_of_ble_eq_true rfl) (Nat.le_refl _) ⟨Nat.le_refl _, Nat.le_refl _⟩ (m_Ci h (fun v2 M1 h => ?_))
  show m_W (d + 1) 0 0 yX11_ahead cX11_ahead 8 (some .long) (m_ql Th Q) 6 [(0, .ref a0), (1, .int x1), (2, .int x2), (3, .int x3)] [.int v2] Th M1 0 0
  refine m_if_eq (tgt := 18) dX11_ahead_6 (by decide) (fun c1 => ?_) (fun c1 => ?_)
  · rw [if_pos c1] at h
    refine m_ldc2 k_X11_308 dX11_ahead_18 ?_
    exact m_lreturn dX11_ahead_21 rfl ⟨rfl, _, rfl, h⟩
  · rw [if_neg c1] at h
    refine m_iload_n dX11_ahead_9 rfl 3 rfl ?_
    refine m_iconst (v := 0) dX11_ahead_10 (by decide) ?_
    refine m_iconst (v := 3) dX11_ahead_11 (by decide) ?_
    refine m_invS (As := [.int x3, .int 0, .int 3]) (d' := d) (mc' := 0) (ms' := 0) (rest := []) i_11_in s_11_in l_X11_148 dX11_ahead_12 rfl rfl (Nat.le_of_ble_eq_true rfl) (Nat.le_refl _) ⟨Nat.le_refl _, Nat.le_refl _⟩ (m_Ci h (fun v5 M4 h => ?_))
    show m_W (d + 1) 0 0 yX11_ahead cX11_ahead 8 (some .long) (m_ql Th Q) 15 [(0, .ref a0), (1, .int x1), (2, .int x2), (3, .int x3)] [.int v5] Th M4 0 0
    refine m_if_ne (tgt := 22) dX11_ahead_15 (by decide) (fun c1 => ?_) (fun c1 => ?_)
    · rw [if_neg c1] at h
      refine m_aload_n dX11_ahead_22 rfl 0 rfl ?_
      refine m_iload_n dX11_ahead_23 rfl 1 rfl ?_
      refine m_iload_n dX11_ahead_24 rfl 2 rfl ?_
      refine m_aload_n dX11_ahead_25 rfl 0 rfl ?_
      refine m_geti f_X11_141 rfl dX11_ahead_26 q3 ?_
      refine m_invV (ci := 11) (As := [.int x1, .int x2, .int (((M4).1 a0 0))]) (d' := d) (mc' := 0) (ms' := 0) (rest := []) i_11_races v_11_races t_11_races l_X11_326 ⟨_, _, rfl⟩ dX11_ahead_29 rfl rfl q3 (Nat.le_of_ble_eq_true rfl) (Nat.le_refl _) ⟨Nat.le_refl _, Nat.le_refl _⟩ (m_Cv h (fun M6 h => ?_))
      show m_W (d + 1) 0 0 yX11_ahead cX11_ahead 8 (some .long) (m_ql Th Q) 32 [(0, .ref a0), (1, .int x1), (2, .int x2), (3, .int x3)] [] Th M6 0 0
      refine m_iload_n dX11_ahead_32 rfl 3 rfl ?_
      refine m_iconst (v := 2) dX11_ahead_33 (by decide) ?_
      refine m_icmp_ge (tgt := 44) dX11_ahead_34 (by decide) (fun c1 => ?_) (fun c1 => ?_)
      · rw [if_pos c1] at h
        refine m_aload_n dX11_ahead_44 rfl 0 rfl ?_
        refine m_getl f_X11_320 dX11_ahead_45 q3 ?_
        exact m_sub [3] rfl h
      · rw [if_neg c1] at h
        refine m_aload_n dX11_ahead_37 rfl 0 rfl ?_
        refine m_getl f_X11_317 dX11_ahead_38 q3 ?_
        refine m_goto (tgt := 48) dX11_ahead_41 (by decide) ?_
        exact m_sub [3] rfl h
    · rw [if_pos c1] at h
      refine m_ldc2 k_X11_308 dX11_ahead_18 ?_
      exact m_lreturn dX11_ahead_21 rfl ⟨rfl, _, rfl, h⟩
set_option maxHeartbeats 4000000 in
set_option maxRecDepth 100000 in
theorem h11_sharesTick_2 {d : Nat} {Th : mT} {Q : mM → Prop} {a0 : Nat} {x1 : Int32} {x2 : Int32} {x3 : Int32} {M : mM} (h : Th.2.2 a0 = some (.inl 11) ∧ (if (16 * ((M).1 a0 0)) < x3 then (H11_sharesTick_28 (d + 1) Th Q a0 x1 x2 0 M) else (∃ r2 : Nat, M.2.2 a0 38 = some r2 ∧ (m_okw Th r2 .long x3 ∧ (H11_sharesTick_2 (d + 1) Th Q a0 x1 x2 (x3 + 1) (m_ul M r2 (Int32.toNatClampNeg x3) 0)))))) : H11_sharesTick_2 (d + 1) Th Q a0 x1 x2 x3 M := by
  show m_W (d + 1) 0 0 yX11_sharesTick cX11_sharesTick 12 none (m_qv Th Q) 2 [(0, .ref a0), (1, .int x1), (2, .int x2), (3, .int x3)] [] Th M 0 0
  refine m_iload_n dX11_sharesTick_2 rfl 3 rfl ?_
  refine m_bipush (v := 16) dX11_sharesTick_3 (by decide) ?_
  refine m_aload_n dX11_sharesTick_5 rfl 0 rfl ?_
  obtain ⟨q1, h⟩ := h
  refine m_geti f_X11_141 rfl dX11_sharesTick_6 q1 ?_
  refine m_imul dX11_sharesTick_9 ?_
  refine m_icmp_gt (tgt := 26) dX11_sharesTick_10 (by decide) (fun c1 => ?_) (fun c1 => ?_)
  · rw [if_pos c1] at h
    refine m_iconst (v := 0) dX11_sharesTick_26 (by decide) ?_
    refine m_istore_n (lv' := [(3, .int 0), (0, .ref a0), (1, .int x1), (2, .int x2)]) dX11_sharesTick_27 rfl (by decide) rfl ?_
    exact m_sub [1, 2, 3, 0] rfl h
  · rw [if_neg c1] at h
    refine m_aload_n dX11_sharesTick_13 rfl 0 rfl ?_
    obtain ⟨r2, q3, h⟩ := h
    refine m_getr f_X11_75 rfl dX11_sharesTick_14 q1 q3 ?_
    refine m_iload_n dX11_sharesTick_17 rfl 3 rfl ?_
    refine m_lconst (v := 0) dX11_sharesTick_18 (by decide) ?_
    obtain ⟨q4, h⟩ := h
    refine m_last dX11_sharesTick_19 q4 ?_
    refine m_iinc (v := x3 + 1) (lv' := [(3, .int (x3 + 1)), (0, .ref a0), (1, .int x1), (2, .int x2)]) dX11_sharesTick_20 3 rfl rfl (by decide) rfl ?_
    refine m_goto (tgt := 2) dX11_sharesTick_23 (by decide) ?_
    exact m_sub [1, 2, 3, 0] rfl h
set_option maxHeartbeats 4000000 in
set_option maxRecDepth 100000 in
theorem h11_sharesTick_28 {d : Nat} {Th : mT} {Q : mM → Prop} {a0 : Nat} {x1 : Int32} {x2 : Int32} {x3 : Int32} {M : mM} (h : Th.2.2 a0 = some (.inl 11) ∧ (if (16 * ((M).1 a0 0)) ≤ x3 then (H11_sharesTick_356 (d + 1) Th Q a0 0 M) else (∃ r2 : Nat, M.2.2 a0 37 = some r2 ∧ (m_ok Th r2 .long x3 ∧ (if (lg_cmp (((M).2.1 r2 (Int32.toNatClampNeg x3))) 0) = 0 then (H11_sharesTick_28 (d + 1) Th Q a0 x1 x2 (x3 + 1) M) else (∀ xv5 : Int32, xv5 = (x3 / 16) → ∀ xv6 : Int32, xv6 = (x3 - x3 / 16 * 16) → if xv6 ≤ 5 then (∃ r7 : Nat, M.2.2 a0 8 = some r7 ∧ (m_ok Th r7 .int x1 ∧ (P11_thinks d Th a0 x1 (((M).1 r7 (Int32.toNatClampNeg x1))) xv5 xv6 M (fun M10 : mM => ∀ xv12 : Int32, xv12 = (8 - ((M10).1 a0 35)) → ∀ xv13 : Int32, xv13 = ((8 - ((M10).1 a0 35)) - ((M10).1 a0 36)) → ∃ r14 : Nat, M10.2.2 a0 8 = some r14 ∧ (m_ok Th r14 .int x2 ∧ (P11_thinks d Th a0 x2 (((M10).1 r14 (Int32.toNatClampNeg x2))) xv5 xv6 M10 (fun M17 : mM => ∀ xv19 : Int32, xv19 = (xv12 * (8 - ((M17).1 a0 35))) → ∀ xv20 : Int32, xv20 = (xv13 * ((8 - ((M17).1 a0 35)) - ((M17).1 a0 36))) → P11_walkOf d Th a0 x1 xv5 M17 (fun (v22 : Int32) (M21 : mM) => P11_walkOf d Th a0 x2 xv5 M21 (fun (v24 : Int32) (M23 : mM) => if v22 ≤ v24 then (P11_walkOf d Th a0 x2 xv5 M23 (fun (v26 : Int32) (M25 : mM) => H11_sharesTick_225 (d + 1) Th Q a0 x1 x2 x3 xv5 xv6 xv19 xv20 v26 M25)) else (P11_walkOf d Th a0 x1 xv5 M23 (fun (v28 : Int32) (M27 : mM) => H11_sharesTick_225 (d + 1) Th Q a0 x1 x2 x3 xv5 xv6 xv19 xv20 v28 M27))))))))))) else (P11_goesOn d Th x3 (((M).1 a0 0)) M (fun (v30 : Int32) (M29 : mM) => ∃ r31 : Nat, M29.2.2 a0 38 = some r31 ∧ (m_ok Th r31 .long v30 ∧ (∃ r34 : Nat, M29.2.2 a0 37 = some r34 ∧ (m_ok Th r34 .long x3 ∧ (m_okw Th r31 .long v30 ∧ (H11_sharesTick_28 (d + 1) Th Q a0 x1 x2 (x3 + 1) (m_ul M29 r31 (Int32.toNatClampNeg v30) ((((M29).2.1 r31 (Int32.toNatClampNeg v30)) + (64 * ((M29).2.1 r34 (Int32.toNatClampNeg x3))))))))))))))))))) : H11_sharesTick_28 (d + 1) Th Q a0 x1 x2 x3 M := by
  show m_W (d + 1) 0 0 yX11_sharesTick cX11_sharesTick 12 none (m_qv Th Q) 28 [(0, .ref a0), (1, .int x1), (2, .int x2), (3, .int x3)] [] Th M 0 0
  refine m_iload_n dX11_sharesTick_28 rfl 3 rfl ?_
  refine m_bipush (v := 16) dX11_sharesTick_29 (by decide) ?_
  refine m_aload_n dX11_sharesTick_31 rfl 0 rfl ?_
  obtain ⟨q1, h⟩ := h
  refine m_geti f_X11_141 rfl dX11_sharesTick_32 q1 ?_
  refine m_imul dX11_sharesTick_35 ?_
  refine m_icmp_ge (tgt := 354) dX11_sharesTick_36 (by decide) (fun c1 => ?_) (fun c1 => ?_)
  · rw [if_pos c1] at h
    refine m_iconst (v := 0) dX11_sharesTick_354 (by decide) ?_
    refine m_istore_n (lv' := [(3, .int 0), (0, .ref a0), (1, .int x1), (2, .int x2)]) dX11_sharesTick_355 rfl (by decide) rfl ?_
    exact m_sub [1, 0] rfl h
  · rw [if_neg c1] at h
    refine m_aload_n dX11_sharesTick_39 rfl 0 rfl ?_
    obtain ⟨r2, q3, h⟩ := h
    refine m_getr f_X11_71 rfl dX11_sharesTick_40 q1 q3 ?_
    refine m_iload_n dX11_sharesTick_43 rfl 3 rfl ?_
    obtain ⟨q4, h⟩ := h
    refine m_lald dX11_sharesTick_44 q4 ?_
    refine m_lconst (v := 0) dX11_sharesTick_45 (by decide) ?_
    refine m_lcmp dX11_sharesTick_46 ?_
    refine m_if_ne (tgt := 53) dX11_sharesTick_47 (by decide) (fun c1 => ?_) (fun c1 => ?_)
    · rw [if_neg c1] at h
      refine m_iload_n dX11_sharesTick_53 rfl 3 rfl ?_
      refine m_bipush (v := 16) dX11_sharesTick_54 (by decide) ?_
      refine m_idiv dX11_sharesTick_56 (by decide) ?_
      obtain ⟨xv5, e_xv5⟩ : ∃ xv5 : Int32, xv5 = (x3 / 16) := ⟨_, rfl⟩
      have h := h xv5 e_xv5
      rw [← e_xv5]
      refine m_istore (lv' := [(4, .int xv5), (0, .ref a0), (1, .int x1), (2, .int x2), (3, .int x3)]) dX11_sharesTick_57 (by decide) rfl ?_
      refine m_iload_n dX11_sharesTick_59 rfl 4 rfl ?_
      refine m_bipush (v := 16) dX11_sharesTick_60 (by decide) ?_
      refine m_irem dX11_sharesTick_62 (by decide) ?_
      obtain ⟨xv6, e_xv6⟩ : ∃ xv6 : Int32, xv6 = (x3 - x3 / 16 * 16) := ⟨_, rfl⟩
      have h := h xv6 e_xv6
      rw [← e_xv6]
      refine m_istore (lv' := [(5, .int xv6), (4, .int xv5), (0, .ref a0), (1, .int x1), (2, .int x2), (3, .int x3)]) dX11_sharesTick_63 (by decide) rfl ?_
      refine m_iload dX11_sharesTick_65 0 rfl ?_
      refine m_iconst (v := 5) dX11_sharesTick_67 (by decide) ?_
      refine m_icmp_le (tgt := 109) dX11_sharesTick_68 (by decide) (fun c1 => ?_) (fun c1 => ?_)
      · rw [if_pos c1] at h
        refine m_aload_n dX11_sharesTick_109 rfl 2 rfl ?_
        refine m_iload_n dX11_sharesTick_110 rfl 3 rfl ?_
        refine m_aload_n dX11_sharesTick_111 rfl 2 rfl ?_
        obtain ⟨r7, q8, h⟩ := h
        refine m_getr f_X11_19 rfl dX11_sharesTick_112 q1 q8 ?_
        refine m_iload_n dX11_sharesTick_115 rfl 3 rfl ?_
        obtain ⟨q9, h⟩ := h
        refine m_iald dX11_sharesTick_116 q9 ?_
        refine m_iload dX11_sharesTick_117 1 rfl ?_
        refine m_iload dX11_sharesTick_119 0 rfl ?_
        refine m_invV (ci := 11) (As := [.int x1, .int (((M).1 r7 (Int32.toNatClampNeg x1))), .int xv5, .int xv6]) (d' := d) (mc' := 0) (ms' := 0) (rest := []) i_11_thinks v_11_thinks t_11_thinks l_X11_288 ⟨_, _, rfl⟩ dX11_sharesTick_121 rfl rfl q1 (Nat.le_of_ble_eq_true rfl) (Nat.le_refl _) ⟨Nat.le_refl _, Nat.le_refl _⟩ (m_Cv h (fun M10 h => ?_))
        show m_W (d + 1) 0 0 yX11_sharesTick cX11_sharesTick 12 none (m_qv Th Q) 124 [(5, .int xv6), (4, .int xv5), (0, .ref a0), (1, .int x1), (2, .int x2), (3, .int x3)] [] Th M10 0 0
        refine m_bipush (v := 8) dX11_sharesTick_124 (by decide) ?_
        refine m_aload_n dX11_sharesTick_126 rfl 2 rfl ?_
        refine m_geti f_X11_282 rfl dX11_sharesTick_127 q1 ?_
        refine m_isub dX11_sharesTick_130 ?_
        obtain ⟨xv12, e_xv12⟩ : ∃ xv12 : Int32, xv12 = (8 - ((M10).1 a0 35)) := ⟨_, rfl⟩
        have h := h xv12 e_xv12
        rw [← e_xv12]
        refine m_istore (lv' := [(6, .int xv12), (5, .int xv6), (4, .int xv5), (0, .ref a0), (1, .int x1), (2, .int x2), (3, .int x3)]) dX11_sharesTick_131 (by decide) rfl ?_
        refine m_bipush (v := 8) dX11_sharesTick_133 (by decide) ?_
        refine m_aload_n dX11_sharesTick_135 rfl 3 rfl ?_
        refine m_geti f_X11_282 rfl dX11_sharesTick_136 q1 ?_
        refine m_isub dX11_sharesTick_139 ?_
        refine m_aload_n dX11_sharesTick_140 rfl 3 rfl ?_
        refine m_geti f_X11_285 rfl dX11_sharesTick_141 q1 ?_
        refine m_isub dX11_sharesTick_144 ?_
        obtain ⟨xv13, e_xv13⟩ : ∃ xv13 : Int32, xv13 = ((8 - ((M10).1 a0 35)) - ((M10).1 a0 36)) := ⟨_, rfl⟩
        have h := h xv13 e_xv13
        rw [← e_xv13]
        refine m_istore (lv' := [(7, .int xv13), (6, .int xv12), (5, .int xv6), (4, .int xv5), (0, .ref a0), (1, .int x1), (2, .int x2), (3, .int x3)]) dX11_sharesTick_145 (by decide) rfl ?_
        refine m_aload_n dX11_sharesTick_147 rfl 4 rfl ?_
        refine m_iload_n dX11_sharesTick_148 rfl 6 rfl ?_
        refine m_aload_n dX11_sharesTick_149 rfl 4 rfl ?_
        obtain ⟨r14, q15, h⟩ := h
        refine m_getr f_X11_19 rfl dX11_sharesTick_150 q1 q15 ?_
        refine m_iload_n dX11_sharesTick_153 rfl 6 rfl ?_
        obtain ⟨q16, h⟩ := h
        refine m_iald dX11_sharesTick_154 q16 ?_
        refine m_iload dX11_sharesTick_155 3 rfl ?_
        refine m_iload dX11_sharesTick_157 2 rfl ?_
        refine m_invV (ci := 11) (As := [.int x2, .int (((M10).1 r14 (Int32.toNatClampNeg x2))), .int xv5, .int xv6]) (d' := d) (mc' := 0) (ms' := 0) (rest := []) i_11_thinks v_11_thinks t_11_thinks l_X11_288 ⟨_, _, rfl⟩ dX11_sharesTick_159 rfl rfl q1 (Nat.le_of_ble_eq_true rfl) (Nat.le_refl _) ⟨Nat.le_refl _, Nat.le_refl _⟩ (m_Cv h (fun M17 h => ?_))
        show m_W (d + 1) 0 0 yX11_sharesTick cX11_sharesTick 12 none (m_qv Th Q) 162 [(7, .int xv13), (6, .int xv12), (5, .int xv6), (4, .int xv5), (0, .ref a0), (1, .int x1), (2, .int x2), (3, .int x3)] [] Th M17 0 0
        refine m_iload dX11_sharesTick_162 1 rfl ?_
        refine m_bipush (v := 8) dX11_sharesTick_164 (by decide) ?_
        refine m_aload_n dX11_sharesTick_166 rfl 4 rfl ?_
        refine m_geti f_X11_282 rfl dX11_sharesTick_167 q1 ?_
        refine m_isub dX11_sharesTick_170 ?_
        refine m_imul dX11_sharesTick_171 ?_
        obtain ⟨xv19, e_xv19⟩ : ∃ xv19 : Int32, xv19 = (xv12 * (8 - ((M17).1 a0 35))) := ⟨_, rfl⟩
        have h := h xv19 e_xv19
        rw [← e_xv19]
        refine m_istore (lv' := [(6, .int xv19), (7, .int xv13), (5, .int xv6), (4, .int xv5), (0, .ref a0), (1, .int x1), (2, .int x2), (3, .int x3)]) dX11_sharesTick_172 (by decide) rfl ?_
        refine m_iload dX11_sharesTick_174 1 rfl ?_
        refine m_bipush (v := 8) dX11_sharesTick_176 (by decide) ?_
        refine m_aload_n dX11_sharesTick_178 rfl 4 rfl ?_
        refine m_geti f_X11_282 rfl dX11_sharesTick_179 q1 ?_
        refine m_isub dX11_sharesTick_182 ?_
        refine m_aload_n dX11_sharesTick_183 rfl 4 rfl ?_
        refine m_geti f_X11_285 rfl dX11_sharesTick_184 q1 ?_
        refine m_isub dX11_sharesTick_187 ?_
        refine m_imul dX11_sharesTick_188 ?_
        obtain ⟨xv20, e_xv20⟩ : ∃ xv20 : Int32, xv20 = (xv13 * ((8 - ((M17).1 a0 35)) - ((M17).1 a0 36))) := ⟨_, rfl⟩
        have h := h xv20 e_xv20
        rw [← e_xv20]
        refine m_istore (lv' := [(7, .int xv20), (6, .int xv19), (5, .int xv6), (4, .int xv5), (0, .ref a0), (1, .int x1), (2, .int x2), (3, .int x3)]) dX11_sharesTick_189 (by decide) rfl ?_
        refine m_aload_n dX11_sharesTick_191 rfl 4 rfl ?_
        refine m_iload_n dX11_sharesTick_192 rfl 5 rfl ?_
        refine m_iload dX11_sharesTick_193 3 rfl ?_
        refine m_invV (ci := 11) (As := [.int x1, .int xv5]) (d' := d) (mc' := 0) (ms' := 0) (rest := []) i_11_walkOf v_11_walkOf t_11_walkOf l_X11_169 ⟨_, _, rfl⟩ dX11_sharesTick_195 rfl rfl q1 (Nat.le_of_ble_eq_true rfl) (Nat.le_refl _) ⟨Nat.le_refl _, Nat.le_refl _⟩ (m_Ci h (fun v22 M21 h => ?_))
        show m_W (d + 1) 0 0 yX11_sharesTick cX11_sharesTick 12 none (m_qv Th Q) 198 [(7, .int xv20), (6, .int xv19), (5, .int xv6), (4, .int xv5), (0, .ref a0), (1, .int x1), (2, .int x2), (3, .int x3)] [.int v22] Th M21 0 0
        refine m_aload_n dX11_sharesTick_198 rfl 4 rfl ?_
        refine m_iload_n dX11_sharesTick_199 rfl 6 rfl ?_
        refine m_iload dX11_sharesTick_200 3 rfl ?_
        refine m_invV (ci := 11) (As := [.int x2, .int xv5]) (d' := d) (mc' := 0) (ms' := 0) (rest := [.int v22]) i_11_walkOf v_11_walkOf t_11_walkOf l_X11_169 ⟨_, _, rfl⟩ dX11_sharesTick_202 rfl rfl q1 (Nat.le_of_ble_eq_true rfl) (Nat.le_refl _) ⟨Nat.le_refl _, Nat.le_refl _⟩ (m_Ci h (fun v24 M23 h => ?_))
        show m_W (d + 1) 0 0 yX11_sharesTick cX11_sharesTick 12 none (m_qv Th Q) 205 [(7, .int xv20), (6, .int xv19), (5, .int xv6), (4, .int xv5), (0, .ref a0), (1, .int x1), (2, .int x2), (3, .int x3)] [.int v24, .int v22] Th M23 0 0
        refine m_icmp_le (tgt := 218) dX11_sharesTick_205 (by decide) (fun c1 => ?_) (fun c1 => ?_)
        · rw [if_pos c1] at h
          refine m_aload_n dX11_sharesTick_218 rfl 4 rfl ?_
          refine m_iload_n dX11_sharesTick_219 rfl 6 rfl ?_
          refine m_iload dX11_sharesTick_220 3 rfl ?_
          refine m_invV (ci := 11) (As := [.int x2, .int xv5]) (d' := d) (mc' := 0) (ms' := 0) (rest := []) i_11_walkOf v_11_walkOf t_11_walkOf l_X11_169 ⟨_, _, rfl⟩ dX11_sharesTick_222 rfl rfl q1 (Nat.le_of_ble_eq_true rfl) (Nat.le_refl _) ⟨Nat.le_refl _, Nat.le_refl _⟩ (m_Ci h (fun v26 M25 h => ?_))
          show m_W (d + 1) 0 0 yX11_sharesTick cX11_sharesTick 12 none (m_qv Th Q) 225 [(7, .int xv20), (6, .int xv19), (5, .int xv6), (4, .int xv5), (0, .ref a0), (1, .int x1), (2, .int x2), (3, .int x3)] [.int v26] Th M25 0 0
          exact m_sub [4, 5, 6, 7, 3, 2, 1, 0] rfl h
        · rw [if_neg c1] at h
          refine m_aload_n dX11_sharesTick_208 rfl 4 rfl ?_
          refine m_iload_n dX11_sharesTick_209 rfl 5 rfl ?_
          refine m_iload dX11_sharesTick_210 3 rfl ?_
          refine m_invV (ci := 11) (As := [.int x1, .int xv5]) (d' := d) (mc' := 0) (ms' := 0) (rest := []) i_11_walkOf v_11_walkOf t_11_walkOf l_X11_169 ⟨_, _, rfl⟩ dX11_sharesTick_212 rfl rfl q1 (Nat.le_of_ble_eq_true rfl) (Nat.le_refl _) ⟨Nat.le_refl _, Nat.le_refl _⟩ (m_Ci h (fun v28 M27 h => ?_))
          show m_W (d + 1) 0 0 yX11_sharesTick cX11_sharesTick 12 none (m_qv Th Q) 215 [(7, .int xv20), (6, .int xv19), (5, .int xv6), (4, .int xv5), (0, .ref a0), (1, .int x1), (2, .int x2), (3, .int x3)] [.int v28] Th M27 0 0
          refine m_goto (tgt := 225) dX11_sharesTick_215 (by decide) ?_
          exact m_sub [4, 5, 6, 7, 3, 2, 1, 0] rfl h
      · rw [if_neg c1] at h
        refine m_iload_n dX11_sharesTick_71 rfl 5 rfl ?_
        refine m_aload_n dX11_sharesTick_72 rfl 2 rfl ?_
        refine m_geti f_X11_141 rfl dX11_sharesTick_73 q1 ?_
        refine m_invS (As := [.int x3, .int (((M).1 a0 0))]) (d' := d) (mc' := 0) (ms' := 0) (rest := []) i_11_goesOn s_11_goesOn l_X11_292 dX11_sharesTick_76 rfl rfl (Nat.le_of_ble_eq_true rfl) (Nat.le_refl _) ⟨Nat.le_refl _, Nat.le_refl _⟩ (m_Ci h (fun v30 M29 h => ?_))
        show m_W (d + 1) 0 0 yX11_sharesTick cX11_sharesTick 12 none (m_qv Th Q) 79 [(5, .int xv6), (4, .int xv5), (0, .ref a0), (1, .int x1), (2, .int x2), (3, .int x3)] [.int v30] Th M29 0 0
        refine m_istore (lv' := [(6, .int v30), (5, .int xv6), (4, .int xv5), (0, .ref a0), (1, .int x1), (2, .int x2), (3, .int x3)]) dX11_sharesTick_79 (by decide) rfl ?_
        refine m_aload_n dX11_sharesTick_81 rfl 3 rfl ?_
        obtain ⟨r31, q32, h⟩ := h
        refine m_getr f_X11_75 rfl dX11_sharesTick_82 q1 q32 ?_
        refine m_iload dX11_sharesTick_85 0 rfl ?_
        refine m_aload_n dX11_sharesTick_87 rfl 3 rfl ?_
        refine m_getr f_X11_75 rfl dX11_sharesTick_88 q1 q32 ?_
        refine m_iload dX11_sharesTick_91 0 rfl ?_
        obtain ⟨q33, h⟩ := h
        refine m_lald dX11_sharesTick_93 q33 ?_
        refine m_ldc2 k_X11_334 dX11_sharesTick_94 ?_
        refine m_aload_n dX11_sharesTick_97 rfl 3 rfl ?_
        obtain ⟨r34, q35, h⟩ := h
        refine m_getr f_X11_71 rfl dX11_sharesTick_98 q1 q35 ?_
        refine m_iload_n dX11_sharesTick_101 rfl 6 rfl ?_
        obtain ⟨q36, h⟩ := h
        refine m_lald dX11_sharesTick_102 q36 ?_
        refine m_lmul dX11_sharesTick_103 ?_
        refine m_ladd dX11_sharesTick_104 ?_
        obtain ⟨q37, h⟩ := h
        refine m_last dX11_sharesTick_105 q37 ?_
        refine m_goto (tgt := 348) dX11_sharesTick_106 (by decide) ?_
        refine m_iinc (v := x3 + 1) (lv' := [(3, .int (x3 + 1)), (6, .int v30), (5, .int xv6), (4, .int xv5), (0, .ref a0), (1, .int x1), (2, .int x2)]) dX11_sharesTick_348 6 rfl rfl (by decide) rfl ?_
        refine m_goto (tgt := 28) dX11_sharesTick_351 (by decide) ?_
        exact m_sub [4, 5, 6, 0] rfl h
    · rw [if_pos c1] at h
      refine m_goto (tgt := 348) dX11_sharesTick_50 (by decide) ?_
      refine m_iinc (v := x3 + 1) (lv' := [(3, .int (x3 + 1)), (0, .ref a0), (1, .int x1), (2, .int x2)]) dX11_sharesTick_348 3 rfl rfl (by decide) rfl ?_
      refine m_goto (tgt := 28) dX11_sharesTick_351 (by decide) ?_
      exact m_sub [1, 2, 3, 0] rfl h
set_option maxHeartbeats 4000000 in
set_option maxRecDepth 100000 in
theorem h11_sharesTick_225 {d : Nat} {Th : mT} {Q : mM → Prop} {a0 : Nat} {x1 : Int32} {x2 : Int32} {x3 : Int32} {x4 : Int32} {x5 : Int32} {x6 : Int32} {x7 : Int32} {s0 : Int32} {M : mM} (h : ∀ xv1 : Int32, xv1 = (((16 * x4) + 5) + s0) → Th.2.2 a0 = some (.inl 11) ∧ (∀ xv3 : Int32, xv3 = (((16 * x4) + 11) + ((M).1 a0 2)) → P11_more d Th x5 M (fun (v5 : Int32) (M4 : mM) => ∀ xv6 : Int32, xv6 = ((16 * x4) + v5) → ∃ r7 : Nat, M4.2.2 a0 38 = some r7 ∧ (m_ok Th r7 .long xv1 ∧ (∃ r10 : Nat, M4.2.2 a0 37 = some r10 ∧ (m_ok Th r10 .long x3 ∧ (m_okw Th r7 .long xv1 ∧ (m_ok Th r7 .long xv3 ∧ (∀ M15 : mM, M15 = m_ul M4 r7 (Int32.toNatClampNeg xv1) ((((M4).2.1 r7 (Int32.toNatClampNeg xv1)) + (((64 - x6) : Int32).toInt64 * ((M4).2.1 r10 (Int32.toNatClampNeg x3))))) → m_okw Th r7 .long xv3 ∧ (m_ok Th r7 .long xv6 ∧ (∀ M18 : mM, M18 = m_ul M15 r7 (Int32.toNatClampNeg xv3) ((((M15).2.1 r7 (Int32.toNatClampNeg xv3)) + (((x6 - x7) : Int32).toInt64 * ((M15).2.1 r10 (Int32.toNatClampNeg x3))))) → m_okw Th r7 .long xv6 ∧ (H11_sharesTick_28 (d + 1) Th Q a0 x1 x2 (x3 + 1) (m_ul M18 r7 (Int32.toNatClampNeg xv6) ((((M18).2.1 r7 (Int32.toNatClampNeg xv6)) + ((x7 : Int32).toInt64 * ((M18).2.1 r10 (Int32.toNatClampNeg x3)))))))))))))))))) : H11_sharesTick_225 (d + 1) Th Q a0 x1 x2 x3 x4 x5 x6 x7 s0 M := by
  show m_W (d + 1) 0 0 yX11_sharesTick cX11_sharesTick 12 none (m_qv Th Q) 225 [(0, .ref a0), (1, .int x1), (2, .int x2), (3, .int x3), (4, .int x4), (5, .int x5), (6, .int x6), (7, .int x7)] [.int s0] Th M 0 0
  refine m_istore (lv' := [(8, .int s0), (0, .ref a0), (1, .int x1), (2, .int x2), (3, .int x3), (4, .int x4), (5, .int x5), (6, .int x6), (7, .int x7)]) dX11_sharesTick_225 (by decide) rfl ?_
  refine m_bipush (v := 16) dX11_sharesTick_227 (by decide) ?_
  refine m_iload dX11_sharesTick_229 5 rfl ?_
  refine m_imul dX11_sharesTick_231 ?_
  refine m_iconst (v := 5) dX11_sharesTick_232 (by decide) ?_
  refine m_iadd dX11_sharesTick_233 ?_
  refine m_iload dX11_sharesTick_234 0 rfl ?_
  refine m_iadd dX11_sharesTick_236 ?_
  obtain ⟨xv1, e_xv1⟩ : ∃ xv1 : Int32, xv1 = (((16 * x4) + 5) + s0) := ⟨_, rfl⟩
  have h := h xv1 e_xv1
  rw [← e_xv1]
  refine m_istore (lv' := [(9, .int xv1), (8, .int s0), (0, .ref a0), (1, .int x1), (2, .int x2), (3, .int x3), (4, .int x4), (5, .int x5), (6, .int x6), (7, .int x7)]) dX11_sharesTick_237 (by decide) rfl ?_
  refine m_bipush (v := 16) dX11_sharesTick_239 (by decide) ?_
  refine m_iload dX11_sharesTick_241 6 rfl ?_
  refine m_imul dX11_sharesTick_243 ?_
  refine m_bipush (v := 11) dX11_sharesTick_244 (by decide) ?_
  refine m_iadd dX11_sharesTick_246 ?_
  refine m_aload_n dX11_sharesTick_247 rfl 2 rfl ?_
  obtain ⟨q2, h⟩ := h
  refine m_geti f_X11_131 rfl dX11_sharesTick_248 q2 ?_
  refine m_iadd dX11_sharesTick_251 ?_
  obtain ⟨xv3, e_xv3⟩ : ∃ xv3 : Int32, xv3 = (((16 * x4) + 11) + ((M).1 a0 2)) := ⟨_, rfl⟩
  have h := h xv3 e_xv3
  rw [← e_xv3]
  refine m_istore (lv' := [(10, .int xv3), (9, .int xv1), (8, .int s0), (0, .ref a0), (1, .int x1), (2, .int x2), (3, .int x3), (4, .int x4), (5, .int x5), (6, .int x6), (7, .int x7)]) dX11_sharesTick_252 (by decide) rfl ?_
  refine m_bipush (v := 16) dX11_sharesTick_254 (by decide) ?_
  refine m_iload dX11_sharesTick_256 7 rfl ?_
  refine m_imul dX11_sharesTick_258 ?_
  refine m_iload dX11_sharesTick_259 8 rfl ?_
  refine m_invS (As := [.int x5]) (d' := d) (mc' := 0) (ms' := 0) (rest := [.int ((16 * x4))]) i_11_more s_11_more l_X11_297 dX11_sharesTick_261 rfl rfl (Nat.le_of_ble_eq_true rfl) (Nat.le_refl _) ⟨Nat.le_refl _, Nat.le_refl _⟩ (m_Ci h (fun v5 M4 h => ?_))
  show m_W (d + 1) 0 0 yX11_sharesTick cX11_sharesTick 12 none (m_qv Th Q) 264 [(10, .int xv3), (9, .int xv1), (8, .int s0), (0, .ref a0), (1, .int x1), (2, .int x2), (3, .int x3), (4, .int x4), (5, .int x5), (6, .int x6), (7, .int x7)] [.int v5, .int ((16 * x4))] Th M4 0 0
  refine m_iadd dX11_sharesTick_264 ?_
  obtain ⟨xv6, e_xv6⟩ : ∃ xv6 : Int32, xv6 = ((16 * x4) + v5) := ⟨_, rfl⟩
  have h := h xv6 e_xv6
  rw [← e_xv6]
  refine m_istore (lv' := [(11, .int xv6), (10, .int xv3), (9, .int xv1), (8, .int s0), (0, .ref a0), (1, .int x1), (2, .int x2), (3, .int x3), (4, .int x4), (5, .int x5), (6, .int x6), (7, .int x7)]) dX11_sharesTick_265 (by decide) rfl ?_
  refine m_aload_n dX11_sharesTick_267 rfl 4 rfl ?_
  obtain ⟨r7, q8, h⟩ := h
  refine m_getr f_X11_75 rfl dX11_sharesTick_268 q2 q8 ?_
  refine m_iload dX11_sharesTick_271 2 rfl ?_
  refine m_aload_n dX11_sharesTick_273 rfl 4 rfl ?_
  refine m_getr f_X11_75 rfl dX11_sharesTick_274 q2 q8 ?_
  refine m_iload dX11_sharesTick_277 2 rfl ?_
  obtain ⟨q9, h⟩ := h
  refine m_lald dX11_sharesTick_279 q9 ?_
  refine m_bipush (v := 64) dX11_sharesTick_280 (by decide) ?_
  refine m_iload dX11_sharesTick_282 10 rfl ?_
  refine m_isub dX11_sharesTick_284 ?_
  refine m_i2l dX11_sharesTick_285 ?_
  refine m_aload_n dX11_sharesTick_286 rfl 4 rfl ?_
  obtain ⟨r10, q11, h⟩ := h
  refine m_getr f_X11_71 rfl dX11_sharesTick_287 q2 q11 ?_
  refine m_iload_n dX11_sharesTick_290 rfl 7 rfl ?_
  obtain ⟨q12, h⟩ := h
  refine m_lald dX11_sharesTick_291 q12 ?_
  refine m_lmul dX11_sharesTick_292 ?_
  refine m_ladd dX11_sharesTick_293 ?_
  obtain ⟨q13, h⟩ := h
  refine m_last dX11_sharesTick_294 q13 ?_
  refine m_aload_n dX11_sharesTick_295 rfl 4 rfl ?_
  refine m_getr f_X11_75 rfl dX11_sharesTick_296 q2 q8 ?_
  refine m_iload dX11_sharesTick_299 1 rfl ?_
  refine m_aload_n dX11_sharesTick_301 rfl 4 rfl ?_
  refine m_getr f_X11_75 rfl dX11_sharesTick_302 q2 q8 ?_
  refine m_iload dX11_sharesTick_305 1 rfl ?_
  obtain ⟨q14, h⟩ := h
  obtain ⟨M15, e_M15⟩ : ∃ M15 : mM, M15 = m_ul M4 r7 (Int32.toNatClampNeg xv1) ((((M4).2.1 r7 (Int32.toNatClampNeg xv1)) + (((64 - x6) : Int32).toInt64 * ((M4).2.1 r10 (Int32.toNatClampNeg x3))))) := ⟨_, rfl⟩
  have h := h M15 e_M15
  rw [← e_M15]
  refine m_lald dX11_sharesTick_307 q14 ?_
  refine m_iload dX11_sharesTick_308 10 rfl ?_
  refine m_iload dX11_sharesTick_310 11 rfl ?_
  refine m_isub dX11_sharesTick_312 ?_
  refine m_i2l dX11_sharesTick_313 ?_
  refine m_aload_n dX11_sharesTick_314 rfl 4 rfl ?_
  refine m_getr f_X11_71 rfl dX11_sharesTick_315 q2 (by rw [e_M15]; exact q11) ?_
  refine m_iload_n dX11_sharesTick_318 rfl 7 rfl ?_
  refine m_lald dX11_sharesTick_319 q12 ?_
  refine m_lmul dX11_sharesTick_320 ?_
  refine m_ladd dX11_sharesTick_321 ?_
  obtain ⟨q16, h⟩ := h
  refine m_last dX11_sharesTick_322 q16 ?_
  refine m_aload_n dX11_sharesTick_323 rfl 4 rfl ?_
  refine m_getr f_X11_75 rfl dX11_sharesTick_324 q2 (by rw [e_M15]; exact q8) ?_
  refine m_iload dX11_sharesTick_327 0 rfl ?_
  refine m_aload_n dX11_sharesTick_329 rfl 4 rfl ?_
  refine m_getr f_X11_75 rfl dX11_sharesTick_330 q2 (by rw [e_M15]; exact q8) ?_
  refine m_iload dX11_sharesTick_333 0 rfl ?_
  obtain ⟨q17, h⟩ := h
  obtain ⟨M18, e_M18⟩ : ∃ M18 : mM, M18 = m_ul M15 r7 (Int32.toNatClampNeg xv3) ((((M15).2.1 r7 (Int32.toNatClampNeg xv3)) + (((x6 - x7) : Int32).toInt64 * ((M15).2.1 r10 (Int32.toNatClampNeg x3))))) := ⟨_, rfl⟩
  have h := h M18 e_M18
  rw [← e_M18]
  refine m_lald dX11_sharesTick_335 q17 ?_
  refine m_iload dX11_sharesTick_336 11 rfl ?_
  refine m_i2l dX11_sharesTick_338 ?_
  refine m_aload_n dX11_sharesTick_339 rfl 4 rfl ?_
  refine m_getr f_X11_71 rfl dX11_sharesTick_340 q2 (by rw [e_M18, e_M15]; exact q11) ?_
  refine m_iload_n dX11_sharesTick_343 rfl 7 rfl ?_
  refine m_lald dX11_sharesTick_344 q12 ?_
  refine m_lmul dX11_sharesTick_345 ?_
  refine m_ladd dX11_sharesTick_346 ?_
  obtain ⟨q19, h⟩ := h
  refine m_last dX11_sharesTick_347 q19 ?_
  refine m_iinc (v := x3 + 1) (lv' := [(3, .int (x3 + 1)), (11, .int xv6), (10, .int xv3), (9, .int xv1), (8, .int s0), (0, .ref a0), (1, .int x1), (2, .int x2), (4, .int x4), (5, .int x5), (6, .int x6), (7, .int x7)]) dX11_sharesTick_348 7 rfl rfl (by decide) rfl ?_
  refine m_goto (tgt := 28) dX11_sharesTick_351 (by decide) ?_
  exact m_sub [5, 6, 7, 0] rfl h
set_option maxHeartbeats 4000000 in
set_option maxRecDepth 100000 in
theorem h11_sharesTick_356 {d : Nat} {Th : mT} {Q : mM → Prop} {a0 : Nat} {x3 : Int32} {M : mM} (h : Th.2.2 a0 = some (.inl 11) ∧ (if (16 * ((M).1 a0 0)) ≤ x3 then (Q M) else (∃ r2 : Nat, M.2.2 a0 37 = some r2 ∧ (∃ r4 : Nat, M.2.2 a0 38 = some r4 ∧ (m_ok Th r4 .long x3 ∧ (m_okw Th r2 .long x3 ∧ (H11_sharesTick_356 (d + 1) Th Q a0 (x3 + 1) (m_ul M r2 (Int32.toNatClampNeg x3) (((M).2.1 r4 (Int32.toNatClampNeg x3))))))))))) : H11_sharesTick_356 (d + 1) Th Q a0 x3 M := by
  show m_W (d + 1) 0 0 yX11_sharesTick cX11_sharesTick 12 none (m_qv Th Q) 356 [(0, .ref a0), (3, .int x3)] [] Th M 0 0
  refine m_iload_n dX11_sharesTick_356 rfl 1 rfl ?_
  refine m_bipush (v := 16) dX11_sharesTick_357 (by decide) ?_
  refine m_aload_n dX11_sharesTick_359 rfl 0 rfl ?_
  obtain ⟨q1, h⟩ := h
  refine m_geti f_X11_141 rfl dX11_sharesTick_360 q1 ?_
  refine m_imul dX11_sharesTick_363 ?_
  refine m_icmp_ge (tgt := 385) dX11_sharesTick_364 (by decide) (fun c1 => ?_) (fun c1 => ?_)
  · rw [if_pos c1] at h
    exact m_return dX11_sharesTick_385 rfl ⟨rfl, rfl, h⟩
  · rw [if_neg c1] at h
    refine m_aload_n dX11_sharesTick_367 rfl 0 rfl ?_
    obtain ⟨r2, q3, h⟩ := h
    refine m_getr f_X11_71 rfl dX11_sharesTick_368 q1 q3 ?_
    refine m_iload_n dX11_sharesTick_371 rfl 1 rfl ?_
    refine m_aload_n dX11_sharesTick_372 rfl 0 rfl ?_
    obtain ⟨r4, q5, h⟩ := h
    refine m_getr f_X11_75 rfl dX11_sharesTick_373 q1 q5 ?_
    refine m_iload_n dX11_sharesTick_376 rfl 1 rfl ?_
    obtain ⟨q6, h⟩ := h
    refine m_lald dX11_sharesTick_377 q6 ?_
    obtain ⟨q7, h⟩ := h
    refine m_last dX11_sharesTick_378 q7 ?_
    refine m_iinc (v := x3 + 1) (lv' := [(3, .int (x3 + 1)), (0, .ref a0)]) dX11_sharesTick_379 1 rfl rfl (by decide) rfl ?_
    refine m_goto (tgt := 356) dX11_sharesTick_382 (by decide) ?_
    exact m_sub [1, 0] rfl h
set_option maxHeartbeats 4000000 in
set_option maxRecDepth 100000 in
theorem e11_sharesTick {d : Nat} {Th : mT} {Q : mM → Prop} {a0 : Nat} {x1 : Int32} {x2 : Int32} {M : mM} (h : H11_sharesTick_2 (d + 1) Th Q a0 x1 x2 0 M) : P11_sharesTick (d + 1) Th a0 x1 x2 M Q := by
  refine m_C.of (by decide +kernel) (Nat.le_of_ble_eq_true rfl) ?_
  show m_W (d + 1) 0 0 yX11_sharesTick cX11_sharesTick 12 none (m_qv Th Q) 0 [(0, .ref a0), (1, .int x1), (2, .int x2)] [] Th M 0 0
  refine m_iconst (v := 0) dX11_sharesTick_0 (by decide) ?_
  refine m_istore_n (lv' := [(3, .int 0), (0, .ref a0), (1, .int x1), (2, .int x2)]) dX11_sharesTick_1 rfl (by decide) rfl ?_
  exact m_sub [1, 2, 3, 0] rfl h
set_option maxHeartbeats 4000000 in
set_option maxRecDepth 100000 in
theorem h11_share_26 {d : Nat} {Th : mT} {Q : Int64 → mM → Prop} {a0 : Nat} {x1 : Int32} {x2 : Int32} {x3 : Int32} {x4 : Int32} {M : mM} (h : Th.2.2 a0 = some (.inl 11) ∧ (if (16 * ((M).1 a0 0)) ≤ x4 then (∃ r2 : Nat, M.2.2 a0 37 = some r2 ∧ (m_okw Th r2 .long 0 ∧ (H11_share_65 (d + 1) Th Q a0 x1 x2 x3 0 1 (m_ul M r2 (Int32.toNatClampNeg 0) 1)))) else (∃ r5 : Nat, M.2.2 a0 37 = some r5 ∧ (m_okw Th r5 .long x4 ∧ (H11_share_26 (d + 1) Th Q a0 x1 x2 x3 (x4 + 1) (m_ul M r5 (Int32.toNatClampNeg x4) 0)))))) : H11_share_26 (d + 1) Th Q a0 x1 x2 x3 x4 M := by
  show m_W (d + 1) 0 0 yX11_share cX11_share 7 (some .long) (m_ql Th Q) 26 [(0, .ref a0), (1, .int x1), (2, .int x2), (3, .int x3), (4, .int x4)] [] Th M 0 0
  refine m_iload dX11_share_26 4 rfl ?_
  refine m_bipush (v := 16) dX11_share_28 (by decide) ?_
  refine m_aload_n dX11_share_30 rfl 0 rfl ?_
  obtain ⟨q1, h⟩ := h
  refine m_geti f_X11_141 rfl dX11_share_31 q1 ?_
  refine m_imul dX11_share_34 ?_
  refine m_icmp_ge (tgt := 52) dX11_share_35 (by decide) (fun c1 => ?_) (fun c1 => ?_)
  · rw [if_pos c1] at h
    refine m_aload_n dX11_share_52 rfl 0 rfl ?_
    obtain ⟨r2, q3, h⟩ := h
    refine m_getr f_X11_71 rfl dX11_share_53 q1 q3 ?_
    refine m_iconst (v := 0) dX11_share_56 (by decide) ?_
    refine m_lconst (v := 1) dX11_share_57 (by decide) ?_
    obtain ⟨q4, h⟩ := h
    refine m_last dX11_share_58 q4 ?_
    refine m_lconst (v := 0) dX11_share_59 (by decide) ?_
    refine m_lstore (lv' := [(4, .long 0), (0, .ref a0), (1, .int x1), (2, .int x2), (3, .int x3)]) dX11_share_60 (by decide) rfl ?_
    refine m_iconst (v := 1) dX11_share_62 (by decide) ?_
    refine m_istore (lv' := [(6, .int 1), (4, .long 0), (0, .ref a0), (1, .int x1), (2, .int x2), (3, .int x3)]) dX11_share_63 (by decide) rfl ?_
    exact m_sub [2, 3, 4, 5, 1, 0] rfl h
  · rw [if_neg c1] at h
    refine m_aload_n dX11_share_38 rfl 0 rfl ?_
    obtain ⟨r5, q6, h⟩ := h
    refine m_getr f_X11_71 rfl dX11_share_39 q1 q6 ?_
    refine m_iload dX11_share_42 4 rfl ?_
    refine m_lconst (v := 0) dX11_share_44 (by decide) ?_
    obtain ⟨q7, h⟩ := h
    refine m_last dX11_share_45 q7 ?_
    refine m_iinc (v := x4 + 1) (lv' := [(4, .int (x4 + 1)), (0, .ref a0), (1, .int x1), (2, .int x2), (3, .int x3)]) dX11_share_46 4 rfl rfl (by decide) rfl ?_
    refine m_goto (tgt := 26) dX11_share_49 (by decide) ?_
    exact m_sub [1, 2, 3, 4, 0] rfl h
set_option maxHeartbeats 4000000 in
set_option maxRecDepth 100000 in
theorem h11_share_65 {d : Nat} {Th : mT} {Q : Int64 → mM → Prop} {a0 : Nat} {x1 : Int32} {x2 : Int32} {x3 : Int32} {l4 : Int64} {x6 : Int32} {M : mM} (h : if x3 < x6 then (Q l4 M) else (Th.2.2 a0 = some (.inl 11) ∧ (P11_sharesTick d Th a0 x1 x2 M (fun M1 : mM => ∃ r4 : Nat, M1.2.2 a0 38 = some r4 ∧ (m_ok Th r4 .long ((16 * ((M1).1 a0 0))) ∧ (∀ lv7 : Int64, lv7 = ((64 * l4) + ((M1).2.1 r4 (Int32.toNatClampNeg ((16 * ((M1).1 a0 0)))))) → H11_share_65 (d + 1) Th Q a0 x1 x2 x3 lv7 (x6 + 1) M1)))))) : H11_share_65 (d + 1) Th Q a0 x1 x2 x3 l4 x6 M := by
  show m_W (d + 1) 0 0 yX11_share cX11_share 7 (some .long) (m_ql Th Q) 65 [(0, .ref a0), (1, .int x1), (2, .int x2), (3, .int x3), (4, .long l4), (6, .int x6)] [] Th M 0 0
  refine m_iload dX11_share_65 5 rfl ?_
  refine m_iload_n dX11_share_67 rfl 3 rfl ?_
  refine m_icmp_gt (tgt := 104) dX11_share_68 (by decide) (fun c1 => ?_) (fun c1 => ?_)
  · rw [if_pos c1] at h
    refine m_lload dX11_share_104 4 rfl ?_
    exact m_lreturn dX11_share_106 rfl ⟨rfl, _, rfl, h⟩
  · rw [if_neg c1] at h
    refine m_aload_n dX11_share_71 rfl 0 rfl ?_
    refine m_iload_n dX11_share_72 rfl 1 rfl ?_
    refine m_iload_n dX11_share_73 rfl 2 rfl ?_
    obtain ⟨q3, h⟩ := h
    refine m_invV (ci := 11) (As := [.int x1, .int x2]) (d' := d) (mc' := 0) (ms' := 0) (rest := []) i_11_sharesTick v_11_sharesTick t_11_sharesTick l_X11_336 ⟨_, _, rfl⟩ dX11_share_74 rfl rfl q3 (Nat.le_of_ble_eq_true rfl) (Nat.le_refl _) ⟨Nat.le_refl _, Nat.le_refl _⟩ (m_Cv h (fun M1 h => ?_))
    show m_W (d + 1) 0 0 yX11_share cX11_share 7 (some .long) (m_ql Th Q) 77 [(0, .ref a0), (1, .int x1), (2, .int x2), (3, .int x3), (4, .long l4), (6, .int x6)] [] Th M1 0 0
    refine m_ldc2 k_X11_334 dX11_share_77 ?_
    refine m_lload dX11_share_80 4 rfl ?_
    refine m_lmul dX11_share_82 ?_
    refine m_aload_n dX11_share_83 rfl 0 rfl ?_
    obtain ⟨r4, q5, h⟩ := h
    refine m_getr f_X11_75 rfl dX11_share_84 q3 q5 ?_
    refine m_bipush (v := 16) dX11_share_87 (by decide) ?_
    refine m_aload_n dX11_share_89 rfl 0 rfl ?_
    refine m_geti f_X11_141 rfl dX11_share_90 q3 ?_
    refine m_imul dX11_share_93 ?_
    obtain ⟨q6, h⟩ := h
    refine m_lald dX11_share_94 q6 ?_
    refine m_ladd dX11_share_95 ?_
    obtain ⟨lv7, e_lv7⟩ : ∃ lv7 : Int64, lv7 = ((64 * l4) + ((M1).2.1 r4 (Int32.toNatClampNeg ((16 * ((M1).1 a0 0)))))) := ⟨_, rfl⟩
    have h := h lv7 e_lv7
    rw [← e_lv7]
    refine m_lstore (lv' := [(4, .long lv7), (0, .ref a0), (1, .int x1), (2, .int x2), (3, .int x3), (6, .int x6)]) dX11_share_96 (by decide) rfl ?_
    refine m_iinc (v := x6 + 1) (lv' := [(6, .int (x6 + 1)), (4, .long lv7), (0, .ref a0), (1, .int x1), (2, .int x2), (3, .int x3)]) dX11_share_98 5 rfl rfl (by decide) rfl ?_
    refine m_goto (tgt := 65) dX11_share_101 (by decide) ?_
    exact m_sub [2, 3, 4, 5, 1, 0] rfl h
set_option maxHeartbeats 4000000 in
set_option maxRecDepth 100000 in
theorem e11_share {d : Nat} {Th : mT} {Q : Int64 → mM → Prop} {a0 : Nat} {x1 : Int32} {x2 : Int32} {x3 : Int32} {M : mM} (h : Th.2.2 a0 = some (.inl 11) ∧ (P11_areTwo d Th a0 x1 x2 M (fun (v2 : Int32) (M1 : mM) => if v2 = 0 then (Q (-1) M1) else (P11_in d Th x3 1 10 M1 (fun (v5 : Int32) (M4 : mM) => if v5 = 0 then (Q (-1) M4) else (H11_share_26 (d + 1) Th Q a0 x1 x2 x3 0 M4)))))) : P11_share (d + 1) Th a0 x1 x2 x3 M Q := by
  refine m_C.of (by decide +kernel) (Nat.le_of_ble_eq_true rfl) ?_
  show m_W (d + 1) 0 0 yX11_share cX11_share 7 (some .long) (m_ql Th Q) 0 [(0, .ref a0), (1, .int x1), (2, .int x2), (3, .int x3)] [] Th M 0 0
  refine m_aload_n dX11_share_0 rfl 0 rfl ?_
  refine m_iload_n dX11_share_1 rfl 1 rfl ?_
  refine m_iload_n dX11_share_2 rfl 2 rfl ?_
  obtain ⟨q3, h⟩ := h
  refine m_invV (ci := 11) (As := [.int x1, .int x2]) (d' := d) (mc' := 0) (ms' := 0) (rest := []) i_11_areTwo v_11_areTwo t_11_areTwo l_X11_323 ⟨_, _, rfl⟩ dX11_share_3 rfl rfl q3 (Nat.le_of_ble_eq_true rfl) (Nat.le_refl _) ⟨Nat.le_refl _, Nat.le_refl _⟩ (m_Ci h (fun v2 M1 h => ?_))
  show m_W (d + 1) 0 0 yX11_share cX11_share 7 (some .long) (m_ql Th Q) 6 [(0, .ref a0), (1, .int x1), (2, .int x2), (3, .int x3)] [.int v2] Th M1 0 0
  refine m_if_eq (tgt := 19) dX11_share_6 (by decide) (fun c1 => ?_) (fun c1 => ?_)
  · rw [if_pos c1] at h
    refine m_ldc2 k_X11_308 dX11_share_19 ?_
    exact m_lreturn dX11_share_22 rfl ⟨rfl, _, rfl, h⟩
  · rw [if_neg c1] at h
    refine m_iload_n dX11_share_9 rfl 3 rfl ?_
    refine m_iconst (v := 1) dX11_share_10 (by decide) ?_
    refine m_bipush (v := 10) dX11_share_11 (by decide) ?_
    refine m_invS (As := [.int x3, .int 1, .int 10]) (d' := d) (mc' := 0) (ms' := 0) (rest := []) i_11_in s_11_in l_X11_148 dX11_share_13 rfl rfl (Nat.le_of_ble_eq_true rfl) (Nat.le_refl _) ⟨Nat.le_refl _, Nat.le_refl _⟩ (m_Ci h (fun v5 M4 h => ?_))
    show m_W (d + 1) 0 0 yX11_share cX11_share 7 (some .long) (m_ql Th Q) 16 [(0, .ref a0), (1, .int x1), (2, .int x2), (3, .int x3)] [.int v5] Th M4 0 0
    refine m_if_ne (tgt := 23) dX11_share_16 (by decide) (fun c1 => ?_) (fun c1 => ?_)
    · rw [if_neg c1] at h
      refine m_iconst (v := 0) dX11_share_23 (by decide) ?_
      refine m_istore (lv' := [(4, .int 0), (0, .ref a0), (1, .int x1), (2, .int x2), (3, .int x3)]) dX11_share_24 (by decide) rfl ?_
      exact m_sub [1, 2, 3, 4, 0] rfl h
    · rw [if_pos c1] at h
      refine m_ldc2 k_X11_308 dX11_share_19 ?_
      exact m_lreturn dX11_share_22 rfl ⟨rfl, _, rfl, h⟩
set_option maxHeartbeats 4000000 in
set_option maxRecDepth 100000 in
theorem e11_solvesAfter {d : Nat} {Th : mT} {Q : mM → Prop} {a0 : Nat} {x1 : Int32} {x2 : Int32} {x3 : Int32} {x4 : Int32} {x5 : Int32} {x6 : Int32} {l7 : Int64} {M : mM} (h : Th.2.2 a0 = some (.inl 11) ∧ (P11_walkOf d Th a0 x1 x3 M (fun (v2 : Int32) (M1 : mM) => ∀ xv4 : Int32, xv4 = ((if x4 ≤ x5 then x5 else x4) + v2) → if ((M1).1 a0 0) ≤ (x3 + 1) then (if xv4 ≤ x6 then (P11_eights d Th ((x6 - x4)) M1 (fun (v6 : Int64) (M5 : mM) => ∀ lv7 : Int64, lv7 = (l7 * v6) → ∀ M8 : mM, M8 = m_ul M5 a0 44 ((((M5).2.1 a0 44) + lv7)) → P11_walkOf d Th a0 x2 x3 M8 (fun (v10 : Int32) (M9 : mM) => Q (m_ul M9 a0 45 ((((M8).2.1 a0 45) + (if (x4 + v10) ≤ xv4 then 0 else lv7))))))) else (Q M1)) else (P11_walkOf d Th a0 x2 x3 M1 (fun (v12 : Int32) (M11 : mM) => ∀ xv13 : Int32, xv13 = ((13 * (((16 * x3) + 5) + v12)) + (if xv4 ≤ 12 then xv4 else 12)) → ∃ r14 : Nat, M11.2.2 a0 38 = some r14 ∧ (m_ok Th r14 .long xv13 ∧ (m_okw Th r14 .long xv13 ∧ (Q (m_ul M11 r14 (Int32.toNatClampNeg xv13) ((((M11).2.1 r14 (Int32.toNatClampNeg xv13)) + l7))))))))))) : P11_solvesAfter (d + 1) Th a0 x1 x2 x3 x4 x5 x6 l7 M Q := by
  refine m_C.of (by decide +kernel) (Nat.le_of_ble_eq_true rfl) ?_
  show m_W (d + 1) 0 0 yX11_solvesAfter cX11_solvesAfter 12 none (m_qv Th Q) 0 [(0, .ref a0), (1, .int x1), (2, .int x2), (3, .int x3), (4, .int x4), (5, .int x5), (6, .int x6), (7, .long l7)] [] Th M 0 0
  refine m_iload dX11_solvesAfter_0 4 rfl ?_
  refine m_iload dX11_solvesAfter_2 5 rfl ?_
  have hJ : m_W (d + 1) 0 0 yX11_solvesAfter cX11_solvesAfter 12 none (m_qv Th Q) 14 [(0, .ref a0), (1, .int x1), (2, .int x2), (3, .int x3), (4, .int x4), (5, .int x5), (6, .int x6), (7, .long l7)] [.int ((if x4 ≤ x5 then x5 else x4))] Th M 0 0 := by
    refine m_aload_n dX11_solvesAfter_14 rfl 0 rfl ?_
    refine m_iload_n dX11_solvesAfter_15 rfl 1 rfl ?_
    refine m_iload_n dX11_solvesAfter_16 rfl 3 rfl ?_
    obtain ⟨q3, h⟩ := h
    refine m_invV (ci := 11) (As := [.int x1, .int x3]) (d' := d) (mc' := 0) (ms' := 0) (rest := [.int ((if x4 ≤ x5 then x5 else x4))]) i_11_walkOf v_11_walkOf t_11_walkOf l_X11_169 ⟨_, _, rfl⟩ dX11_solvesAfter_17 rfl rfl q3 (Nat.le_of_ble_eq_true rfl) (Nat.le_refl _) ⟨Nat.le_refl _, Nat.le_refl _⟩ (m_Ci h (fun v2 M1 h => ?_))
    show m_W (d + 1) 0 0 yX11_solvesAfter cX11_solvesAfter 12 none (m_qv Th Q) 20 [(0, .ref a0), (1, .int x1), (2, .int x2), (3, .int x3), (4, .int x4), (5, .int x5), (6, .int x6), (7, .long l7)] [.int v2, .int ((if x4 ≤ x5 then x5 else x4))] Th M1 0 0
    refine m_iadd dX11_solvesAfter_20 ?_
    obtain ⟨xv4, e_xv4⟩ : ∃ xv4 : Int32, xv4 = ((if x4 ≤ x5 then x5 else x4) + v2) := ⟨_, rfl⟩
    have h := h xv4 e_xv4
    rw [← e_xv4]
    refine m_istore (lv' := [(9, .int xv4), (0, .ref a0), (1, .int x1), (2, .int x2), (3, .int x3), (4, .int x4), (5, .int x5), (6, .int x6), (7, .long l7)]) dX11_solvesAfter_21 (by decide) rfl ?_
    refine m_iload_n dX11_solvesAfter_23 rfl 4 rfl ?_
    refine m_iconst (v := 1) dX11_solvesAfter_24 (by decide) ?_
    refine m_iadd dX11_solvesAfter_25 ?_
    refine m_aload_n dX11_solvesAfter_26 rfl 1 rfl ?_
    refine m_geti f_X11_141 rfl dX11_solvesAfter_27 q3 ?_
    refine m_icmp_ge (tgt := 84) dX11_solvesAfter_30 (by decide) (fun c1 => ?_) (fun c1 => ?_)
    · rw [if_pos c1] at h
      refine m_iload dX11_solvesAfter_84 0 rfl ?_
      refine m_iload dX11_solvesAfter_86 7 rfl ?_
      refine m_icmp_le (tgt := 92) dX11_solvesAfter_88 (by decide) (fun c1 => ?_) (fun c1 => ?_)
      · rw [if_pos c1] at h
        refine m_lload dX11_solvesAfter_92 8 rfl ?_
        refine m_iload dX11_solvesAfter_94 7 rfl ?_
        refine m_iload dX11_solvesAfter_96 5 rfl ?_
        refine m_isub dX11_solvesAfter_98 ?_
        refine m_invS (As := [.int ((x6 - x4))]) (d' := d) (mc' := 0) (ms' := 0) (rest := [.long l7]) i_11_eights s_11_eights l_X11_313 dX11_solvesAfter_99 rfl rfl (Nat.le_of_ble_eq_true rfl) (Nat.le_refl _) ⟨Nat.le_refl _, Nat.le_refl _⟩ (m_Cl h (fun v6 M5 h => ?_))
        show m_W (d + 1) 0 0 yX11_solvesAfter cX11_solvesAfter 12 none (m_qv Th Q) 102 [(9, .int xv4), (0, .ref a0), (1, .int x1), (2, .int x2), (3, .int x3), (4, .int x4), (5, .int x5), (6, .int x6), (7, .long l7)] [.long v6, .long l7] Th M5 0 0
        refine m_lmul dX11_solvesAfter_102 ?_
        obtain ⟨lv7, e_lv7⟩ : ∃ lv7 : Int64, lv7 = (l7 * v6) := ⟨_, rfl⟩
        have h := h lv7 e_lv7
        rw [← e_lv7]
        refine m_lstore (lv' := [(10, .long lv7), (9, .int xv4), (0, .ref a0), (1, .int x1), (2, .int x2), (3, .int x3), (4, .int x4), (5, .int x5), (6, .int x6), (7, .long l7)]) dX11_solvesAfter_103 (by decide) rfl ?_
        refine m_aload_n dX11_solvesAfter_105 rfl 2 rfl ?_
        refine m_aload_n dX11_solvesAfter_106 rfl 2 rfl ?_
        refine m_getl f_X11_339 dX11_solvesAfter_107 q3 ?_
        refine m_lload dX11_solvesAfter_110 0 rfl ?_
        refine m_ladd dX11_solvesAfter_112 ?_
        refine m_putl f_X11_339 (Or.inl rfl) dX11_solvesAfter_113 q3 ?_
        refine m_aload_n dX11_solvesAfter_116 rfl 2 rfl ?_
        refine m_aload_n dX11_solvesAfter_117 rfl 2 rfl ?_
        obtain ⟨M8, e_M8⟩ : ∃ M8 : mM, M8 = m_ul M5 a0 44 ((((M5).2.1 a0 44) + lv7)) := ⟨_, rfl⟩
        have h := h M8 e_M8
        rw [← e_M8]
        refine m_getl f_X11_342 dX11_solvesAfter_118 q3 ?_
        refine m_iload dX11_solvesAfter_121 1 rfl ?_
        refine m_iload dX11_solvesAfter_123 6 rfl ?_
        refine m_aload_n dX11_solvesAfter_125 rfl 2 rfl ?_
        refine m_iload_n dX11_solvesAfter_126 rfl 4 rfl ?_
        refine m_iload_n dX11_solvesAfter_127 rfl 5 rfl ?_
        refine m_invV (ci := 11) (As := [.int x2, .int x3]) (d' := d) (mc' := 0) (ms' := 0) (rest := [.int x4, .int xv4, .long (((M8).2.1 a0 45)), .ref a0]) i_11_walkOf v_11_walkOf t_11_walkOf l_X11_169 ⟨_, _, rfl⟩ dX11_solvesAfter_128 rfl rfl q3 (Nat.le_of_ble_eq_true rfl) (Nat.le_refl _) ⟨Nat.le_refl _, Nat.le_refl _⟩ (m_Ci h (fun v10 M9 h => ?_))
        show m_W (d + 1) 0 0 yX11_solvesAfter cX11_solvesAfter 12 none (m_qv Th Q) 131 [(10, .long lv7), (9, .int xv4), (0, .ref a0), (1, .int x1), (2, .int x2), (3, .int x3), (4, .int x4), (5, .int x5), (6, .int x6), (7, .long l7)] [.int v10, .int x4, .int xv4, .long (((M8).2.1 a0 45)), .ref a0] Th M9 0 0
        refine m_iadd dX11_solvesAfter_131 ?_
        have hJ : m_W (d + 1) 0 0 yX11_solvesAfter cX11_solvesAfter 12 none (m_qv Th Q) 141 [(10, .long lv7), (9, .int xv4), (0, .ref a0), (1, .int x1), (2, .int x2), (3, .int x3), (4, .int x4), (5, .int x5), (6, .int x6), (7, .long l7)] [.long ((if (x4 + v10) ≤ xv4 then 0 else lv7)), .long (((M8).2.1 a0 45)), .ref a0] Th M9 0 0 := by
          refine m_ladd dX11_solvesAfter_141 ?_
          refine m_putl f_X11_342 (Or.inl rfl) dX11_solvesAfter_142 q3 ?_
          exact m_return dX11_solvesAfter_145 rfl ⟨rfl, rfl, h⟩
        refine m_icmp_ge (tgt := 140) dX11_solvesAfter_132 (by decide) (fun c1 => ?_) (fun c1 => ?_)
        · simp only [if_pos c1] at hJ
          refine m_lconst (v := 0) dX11_solvesAfter_140 (by decide) ?_
          exact hJ
        · simp only [if_neg c1] at hJ
          refine m_lload dX11_solvesAfter_135 0 rfl ?_
          refine m_goto (tgt := 141) dX11_solvesAfter_137 (by decide) ?_
          exact hJ
      · rw [if_neg c1] at h
        exact m_return dX11_solvesAfter_91 rfl ⟨rfl, rfl, h⟩
    · rw [if_neg c1] at h
      refine m_bipush (v := 13) dX11_solvesAfter_33 (by decide) ?_
      refine m_bipush (v := 16) dX11_solvesAfter_35 (by decide) ?_
      refine m_iload_n dX11_solvesAfter_37 rfl 4 rfl ?_
      refine m_imul dX11_solvesAfter_38 ?_
      refine m_iconst (v := 5) dX11_solvesAfter_39 (by decide) ?_
      refine m_iadd dX11_solvesAfter_40 ?_
      refine m_aload_n dX11_solvesAfter_41 rfl 1 rfl ?_
      refine m_iload_n dX11_solvesAfter_42 rfl 3 rfl ?_
      refine m_iload_n dX11_solvesAfter_43 rfl 4 rfl ?_
      refine m_invV (ci := 11) (As := [.int x2, .int x3]) (d' := d) (mc' := 0) (ms' := 0) (rest := [.int (((16 * x3) + 5)), .int 13]) i_11_walkOf v_11_walkOf t_11_walkOf l_X11_169 ⟨_, _, rfl⟩ dX11_solvesAfter_44 rfl rfl q3 (Nat.le_of_ble_eq_true rfl) (Nat.le_refl _) ⟨Nat.le_refl _, Nat.le_refl _⟩ (m_Ci h (fun v12 M11 h => ?_))
      show m_W (d + 1) 0 0 yX11_solvesAfter cX11_solvesAfter 12 none (m_qv Th Q) 47 [(9, .int xv4), (0, .ref a0), (1, .int x1), (2, .int x2), (3, .int x3), (4, .int x4), (5, .int x5), (6, .int x6), (7, .long l7)] [.int v12, .int (((16 * x3) + 5)), .int 13] Th M11 0 0
      refine m_iadd dX11_solvesAfter_47 ?_
      refine m_imul dX11_solvesAfter_48 ?_
      refine m_iload dX11_solvesAfter_49 0 rfl ?_
      refine m_bipush (v := 12) dX11_solvesAfter_51 (by decide) ?_
      have hJ : m_W (d + 1) 0 0 yX11_solvesAfter cX11_solvesAfter 12 none (m_qv Th Q) 63 [(9, .int xv4), (0, .ref a0), (1, .int x1), (2, .int x2), (3, .int x3), (4, .int x4), (5, .int x5), (6, .int x6), (7, .long l7)] [.int ((if xv4 ≤ 12 then xv4 else 12)), .int ((13 * (((16 * x3) + 5) + v12)))] Th M11 0 0 := by
        refine m_iadd dX11_solvesAfter_63 ?_
        obtain ⟨xv13, e_xv13⟩ : ∃ xv13 : Int32, xv13 = ((13 * (((16 * x3) + 5) + v12)) + (if xv4 ≤ 12 then xv4 else 12)) := ⟨_, rfl⟩
        have h := h xv13 e_xv13
        rw [← e_xv13]
        refine m_istore (lv' := [(10, .int xv13), (9, .int xv4), (0, .ref a0), (1, .int x1), (2, .int x2), (3, .int x3), (4, .int x4), (5, .int x5), (6, .int x6), (7, .long l7)]) dX11_solvesAfter_64 (by decide) rfl ?_
        refine m_aload_n dX11_solvesAfter_66 rfl 2 rfl ?_
        obtain ⟨r14, q15, h⟩ := h
        refine m_getr f_X11_75 rfl dX11_solvesAfter_67 q3 q15 ?_
        refine m_iload dX11_solvesAfter_70 0 rfl ?_
        refine m_aload_n dX11_solvesAfter_72 rfl 2 rfl ?_
        refine m_getr f_X11_75 rfl dX11_solvesAfter_73 q3 q15 ?_
        refine m_iload dX11_solvesAfter_76 0 rfl ?_
        obtain ⟨q16, h⟩ := h
        refine m_lald dX11_solvesAfter_78 q16 ?_
        refine m_lload dX11_solvesAfter_79 9 rfl ?_
        refine m_ladd dX11_solvesAfter_81 ?_
        obtain ⟨q17, h⟩ := h
        refine m_last dX11_solvesAfter_82 q17 ?_
        exact m_return dX11_solvesAfter_83 rfl ⟨rfl, rfl, h⟩
      refine m_icmp_le (tgt := 61) dX11_solvesAfter_53 (by decide) (fun c1 => ?_) (fun c1 => ?_)
      · simp only [if_pos c1] at hJ
        refine m_iload dX11_solvesAfter_61 0 rfl ?_
        exact hJ
      · simp only [if_neg c1] at hJ
        refine m_bipush (v := 12) dX11_solvesAfter_56 (by decide) ?_
        refine m_goto (tgt := 63) dX11_solvesAfter_58 (by decide) ?_
        exact hJ
  refine m_icmp_le (tgt := 12) dX11_solvesAfter_4 (by decide) (fun c1 => ?_) (fun c1 => ?_)
  · simp only [if_pos c1] at hJ
    refine m_iload dX11_solvesAfter_12 5 rfl ?_
    exact hJ
  · simp only [if_neg c1] at hJ
    refine m_iload dX11_solvesAfter_7 4 rfl ?_
    refine m_goto (tgt := 14) dX11_solvesAfter_9 (by decide) ?_
    exact hJ
set_option maxHeartbeats 4000000 in
set_option maxRecDepth 100000 in
theorem h11_afterTick_3 {d : Nat} {Th : mT} {Q : mM → Prop} {a0 : Nat} {x1 : Int32} {x2 : Int32} {x3 : Int32} {x4 : Int32} {x5 : Int32} {M : mM} (h : if 1040 ≤ x5 then (H11_afterTick_28 (d + 1) Th Q a0 x1 x2 x3 x4 0 M) else (Th.2.2 a0 = some (.inl 11) ∧ (∃ r2 : Nat, M.2.2 a0 38 = some r2 ∧ (m_okw Th r2 .long x5 ∧ (H11_afterTick_3 (d + 1) Th Q a0 x1 x2 x3 x4 (x5 + 1) (m_ul M r2 (Int32.toNatClampNeg x5) 0)))))) : H11_afterTick_3 (d + 1) Th Q a0 x1 x2 x3 x4 x5 M := by
  show m_W (d + 1) 0 0 yX11_afterTick cX11_afterTick 12 none (m_qv Th Q) 3 [(0, .ref a0), (1, .int x1), (2, .int x2), (3, .int x3), (4, .int x4), (5, .int x5)] [] Th M 0 0
  refine m_iload dX11_afterTick_3 5 rfl ?_
  refine m_sipush (v := 1040) dX11_afterTick_5 (by decide) ?_
  refine m_icmp_ge (tgt := 25) dX11_afterTick_8 (by decide) (fun c1 => ?_) (fun c1 => ?_)
  · rw [if_pos c1] at h
    refine m_iconst (v := 0) dX11_afterTick_25 (by decide) ?_
    refine m_istore (lv' := [(5, .int 0), (0, .ref a0), (1, .int x1), (2, .int x2), (3, .int x3), (4, .int x4)]) dX11_afterTick_26 (by decide) rfl ?_
    exact m_sub [1, 2, 3, 4, 5, 0] rfl h
  · rw [if_neg c1] at h
    refine m_aload_n dX11_afterTick_11 rfl 0 rfl ?_
    obtain ⟨q1, h⟩ := h
    obtain ⟨r2, q3, h⟩ := h
    refine m_getr f_X11_75 rfl dX11_afterTick_12 q1 q3 ?_
    refine m_iload dX11_afterTick_15 5 rfl ?_
    refine m_lconst (v := 0) dX11_afterTick_17 (by decide) ?_
    obtain ⟨q4, h⟩ := h
    refine m_last dX11_afterTick_18 q4 ?_
    refine m_iinc (v := x5 + 1) (lv' := [(5, .int (x5 + 1)), (0, .ref a0), (1, .int x1), (2, .int x2), (3, .int x3), (4, .int x4)]) dX11_afterTick_19 5 rfl rfl (by decide) rfl ?_
    refine m_goto (tgt := 3) dX11_afterTick_22 (by decide) ?_
    exact m_sub [1, 2, 3, 4, 5, 0] rfl h
set_option maxHeartbeats 4000000 in
set_option maxRecDepth 100000 in
theorem h11_afterTick_28 {d : Nat} {Th : mT} {Q : mM → Prop} {a0 : Nat} {x1 : Int32} {x2 : Int32} {x3 : Int32} {x4 : Int32} {x5 : Int32} {M : mM} (h : Th.2.2 a0 = some (.inl 11) ∧ (if (208 * ((M).1 a0 0)) ≤ x5 then (H11_afterTick_297 (d + 1) Th Q a0 0 M) else (∃ r2 : Nat, M.2.2 a0 37 = some r2 ∧ (m_ok Th r2 .long x5 ∧ (if (lg_cmp (((M).2.1 r2 (Int32.toNatClampNeg x5))) 0) = 0 then (H11_afterTick_28 (d + 1) Th Q a0 x1 x2 x3 x4 (x5 + 1) M) else (∀ xv5 : Int32, xv5 = (x5 / 13) → ∀ xv6 : Int32, xv6 = (x5 - x5 / 13 * 13) → ∀ xv7 : Int32, xv7 = (xv5 / 16) → ∀ xv8 : Int32, xv8 = (xv5 - xv5 / 16 * 16) → if xv8 ≤ 5 then (∃ r9 : Nat, M.2.2 a0 8 = some r9 ∧ (m_ok Th r9 .int x2 ∧ (P11_thinks d Th a0 x2 (((M).1 r9 (Int32.toNatClampNeg x2))) xv7 xv8 M (fun M12 : mM => ∀ xv14 : Int32, xv14 = ((13 * (((16 * xv7) + 11) + ((M12).1 a0 2))) + xv6) → P11_more d Th xv8 M12 (fun (v16 : Int32) (M15 : mM) => ∀ xv17 : Int32, xv17 = ((13 * ((16 * xv7) + v16)) + xv6) → ∃ r18 : Nat, M15.2.2 a0 38 = some r18 ∧ (m_ok Th r18 .long xv14 ∧ (∃ r21 : Nat, M15.2.2 a0 37 = some r21 ∧ (m_ok Th r21 .long x5 ∧ (m_okw Th r18 .long xv14 ∧ (m_ok Th r18 .long xv17 ∧ (∀ M26 : mM, M26 = m_ul M15 r18 (Int32.toNatClampNeg xv14) ((((M15).2.1 r18 (Int32.toNatClampNeg xv14)) + ((((M15).1 a0 36) : Int32).toInt64 * ((M15).2.1 r21 (Int32.toNatClampNeg x5))))) → m_okw Th r18 .long xv17 ∧ (∀ M28 : mM, M28 = m_ul M26 r18 (Int32.toNatClampNeg xv17) ((((M26).2.1 r18 (Int32.toNatClampNeg xv17)) + ((((8 - ((M26).1 a0 35)) - ((M26).1 a0 36)) : Int32).toInt64 * ((M26).2.1 r21 (Int32.toNatClampNeg x5))))) → if ((M28).1 a0 35) ≤ 0 then (H11_afterTick_28 (d + 1) Th Q a0 x1 x2 x3 x4 (x5 + 1) M28) else (P11_solvesAfter d Th a0 x1 x2 xv7 x3 xv6 x4 (((((M28).1 a0 35) : Int32).toInt64 * ((M28).2.1 r21 (Int32.toNatClampNeg x5)))) M28 (fun M29 : mM => H11_afterTick_28 (d + 1) Th Q a0 x1 x2 x3 x4 (x5 + 1) M29)))))))))))))) else (P11_goesOn d Th xv5 (((M).1 a0 0)) M (fun (v32 : Int32) (M31 : mM) => ∀ xv33 : Int32, xv33 = ((13 * v32) + xv6) → ∃ r34 : Nat, M31.2.2 a0 38 = some r34 ∧ (m_ok Th r34 .long xv33 ∧ (∃ r37 : Nat, M31.2.2 a0 37 = some r37 ∧ (m_ok Th r37 .long x5 ∧ (m_okw Th r34 .long xv33 ∧ (H11_afterTick_28 (d + 1) Th Q a0 x1 x2 x3 x4 (x5 + 1) (m_ul M31 r34 (Int32.toNatClampNeg xv33) ((((M31).2.1 r34 (Int32.toNatClampNeg xv33)) + (8 * ((M31).2.1 r37 (Int32.toNatClampNeg x5))))))))))))))))))) : H11_afterTick_28 (d + 1) Th Q a0 x1 x2 x3 x4 x5 M := by
  show m_W (d + 1) 0 0 yX11_afterTick cX11_afterTick 12 none (m_qv Th Q) 28 [(0, .ref a0), (1, .int x1), (2, .int x2), (3, .int x3), (4, .int x4), (5, .int x5)] [] Th M 0 0
  refine m_iload dX11_afterTick_28 5 rfl ?_
  refine m_sipush (v := 208) dX11_afterTick_30 (by decide) ?_
  refine m_aload_n dX11_afterTick_33 rfl 0 rfl ?_
  obtain ⟨q1, h⟩ := h
  refine m_geti f_X11_141 rfl dX11_afterTick_34 q1 ?_
  refine m_imul dX11_afterTick_37 ?_
  refine m_icmp_ge (tgt := 294) dX11_afterTick_38 (by decide) (fun c1 => ?_) (fun c1 => ?_)
  · rw [if_pos c1] at h
    refine m_iconst (v := 0) dX11_afterTick_294 (by decide) ?_
    refine m_istore (lv' := [(5, .int 0), (0, .ref a0), (1, .int x1), (2, .int x2), (3, .int x3), (4, .int x4)]) dX11_afterTick_295 (by decide) rfl ?_
    exact m_sub [1, 0] rfl h
  · rw [if_neg c1] at h
    refine m_aload_n dX11_afterTick_41 rfl 0 rfl ?_
    obtain ⟨r2, q3, h⟩ := h
    refine m_getr f_X11_71 rfl dX11_afterTick_42 q1 q3 ?_
    refine m_iload dX11_afterTick_45 5 rfl ?_
    obtain ⟨q4, h⟩ := h
    refine m_lald dX11_afterTick_47 q4 ?_
    refine m_lconst (v := 0) dX11_afterTick_48 (by decide) ?_
    refine m_lcmp dX11_afterTick_49 ?_
    refine m_if_ne (tgt := 56) dX11_afterTick_50 (by decide) (fun c1 => ?_) (fun c1 => ?_)
    · rw [if_neg c1] at h
      refine m_iload dX11_afterTick_56 5 rfl ?_
      refine m_bipush (v := 13) dX11_afterTick_58 (by decide) ?_
      refine m_idiv dX11_afterTick_60 (by decide) ?_
      obtain ⟨xv5, e_xv5⟩ : ∃ xv5 : Int32, xv5 = (x5 / 13) := ⟨_, rfl⟩
      have h := h xv5 e_xv5
      rw [← e_xv5]
      refine m_istore (lv' := [(6, .int xv5), (0, .ref a0), (1, .int x1), (2, .int x2), (3, .int x3), (4, .int x4), (5, .int x5)]) dX11_afterTick_61 (by decide) rfl ?_
      refine m_iload dX11_afterTick_63 6 rfl ?_
      refine m_bipush (v := 13) dX11_afterTick_65 (by decide) ?_
      refine m_irem dX11_afterTick_67 (by decide) ?_
      obtain ⟨xv6, e_xv6⟩ : ∃ xv6 : Int32, xv6 = (x5 - x5 / 13 * 13) := ⟨_, rfl⟩
      have h := h xv6 e_xv6
      rw [← e_xv6]
      refine m_istore (lv' := [(7, .int xv6), (6, .int xv5), (0, .ref a0), (1, .int x1), (2, .int x2), (3, .int x3), (4, .int x4), (5, .int x5)]) dX11_afterTick_68 (by decide) rfl ?_
      refine m_iload dX11_afterTick_70 1 rfl ?_
      refine m_bipush (v := 16) dX11_afterTick_72 (by decide) ?_
      refine m_idiv dX11_afterTick_74 (by decide) ?_
      obtain ⟨xv7, e_xv7⟩ : ∃ xv7 : Int32, xv7 = (xv5 / 16) := ⟨_, rfl⟩
      have h := h xv7 e_xv7
      rw [← e_xv7]
      refine m_istore (lv' := [(8, .int xv7), (7, .int xv6), (6, .int xv5), (0, .ref a0), (1, .int x1), (2, .int x2), (3, .int x3), (4, .int x4), (5, .int x5)]) dX11_afterTick_75 (by decide) rfl ?_
      refine m_iload dX11_afterTick_77 2 rfl ?_
      refine m_bipush (v := 16) dX11_afterTick_79 (by decide) ?_
      refine m_irem dX11_afterTick_81 (by decide) ?_
      obtain ⟨xv8, e_xv8⟩ : ∃ xv8 : Int32, xv8 = (xv5 - xv5 / 16 * 16) := ⟨_, rfl⟩
      have h := h xv8 e_xv8
      rw [← e_xv8]
      refine m_istore (lv' := [(9, .int xv8), (8, .int xv7), (7, .int xv6), (6, .int xv5), (0, .ref a0), (1, .int x1), (2, .int x2), (3, .int x3), (4, .int x4), (5, .int x5)]) dX11_afterTick_82 (by decide) rfl ?_
      refine m_iload dX11_afterTick_84 0 rfl ?_
      refine m_iconst (v := 5) dX11_afterTick_86 (by decide) ?_
      refine m_icmp_le (tgt := 136) dX11_afterTick_87 (by decide) (fun c1 => ?_) (fun c1 => ?_)
      · rw [if_pos c1] at h
        refine m_aload_n dX11_afterTick_136 rfl 4 rfl ?_
        refine m_iload_n dX11_afterTick_137 rfl 6 rfl ?_
        refine m_aload_n dX11_afterTick_138 rfl 4 rfl ?_
        obtain ⟨r9, q10, h⟩ := h
        refine m_getr f_X11_19 rfl dX11_afterTick_139 q1 q10 ?_
        refine m_iload_n dX11_afterTick_142 rfl 6 rfl ?_
        obtain ⟨q11, h⟩ := h
        refine m_iald dX11_afterTick_143 q11 ?_
        refine m_iload dX11_afterTick_144 1 rfl ?_
        refine m_iload dX11_afterTick_146 0 rfl ?_
        refine m_invV (ci := 11) (As := [.int x2, .int (((M).1 r9 (Int32.toNatClampNeg x2))), .int xv7, .int xv8]) (d' := d) (mc' := 0) (ms' := 0) (rest := []) i_11_thinks v_11_thinks t_11_thinks l_X11_288 ⟨_, _, rfl⟩ dX11_afterTick_148 rfl rfl q1 (Nat.le_of_ble_eq_true rfl) (Nat.le_refl _) ⟨Nat.le_refl _, Nat.le_refl _⟩ (m_Cv h (fun M12 h => ?_))
        show m_W (d + 1) 0 0 yX11_afterTick cX11_afterTick 12 none (m_qv Th Q) 151 [(9, .int xv8), (8, .int xv7), (7, .int xv6), (6, .int xv5), (0, .ref a0), (1, .int x1), (2, .int x2), (3, .int x3), (4, .int x4), (5, .int x5)] [] Th M12 0 0
        refine m_bipush (v := 13) dX11_afterTick_151 (by decide) ?_
        refine m_bipush (v := 16) dX11_afterTick_153 (by decide) ?_
        refine m_iload dX11_afterTick_155 1 rfl ?_
        refine m_imul dX11_afterTick_157 ?_
        refine m_bipush (v := 11) dX11_afterTick_158 (by decide) ?_
        refine m_iadd dX11_afterTick_160 ?_
        refine m_aload_n dX11_afterTick_161 rfl 4 rfl ?_
        refine m_geti f_X11_131 rfl dX11_afterTick_162 q1 ?_
        refine m_iadd dX11_afterTick_165 ?_
        refine m_imul dX11_afterTick_166 ?_
        refine m_iload dX11_afterTick_167 2 rfl ?_
        refine m_iadd dX11_afterTick_169 ?_
        obtain ⟨xv14, e_xv14⟩ : ∃ xv14 : Int32, xv14 = ((13 * (((16 * xv7) + 11) + ((M12).1 a0 2))) + xv6) := ⟨_, rfl⟩
        have h := h xv14 e_xv14
        rw [← e_xv14]
        refine m_istore (lv' := [(10, .int xv14), (9, .int xv8), (8, .int xv7), (7, .int xv6), (6, .int xv5), (0, .ref a0), (1, .int x1), (2, .int x2), (3, .int x3), (4, .int x4), (5, .int x5)]) dX11_afterTick_170 (by decide) rfl ?_
        refine m_bipush (v := 13) dX11_afterTick_172 (by decide) ?_
        refine m_bipush (v := 16) dX11_afterTick_174 (by decide) ?_
        refine m_iload dX11_afterTick_176 2 rfl ?_
        refine m_imul dX11_afterTick_178 ?_
        refine m_iload dX11_afterTick_179 1 rfl ?_
        refine m_invS (As := [.int xv8]) (d' := d) (mc' := 0) (ms' := 0) (rest := [.int ((16 * xv7)), .int 13]) i_11_more s_11_more l_X11_297 dX11_afterTick_181 rfl rfl (Nat.le_of_ble_eq_true rfl) (Nat.le_refl _) ⟨Nat.le_refl _, Nat.le_refl _⟩ (m_Ci h (fun v16 M15 h => ?_))
        show m_W (d + 1) 0 0 yX11_afterTick cX11_afterTick 12 none (m_qv Th Q) 184 [(10, .int xv14), (9, .int xv8), (8, .int xv7), (7, .int xv6), (6, .int xv5), (0, .ref a0), (1, .int x1), (2, .int x2), (3, .int x3), (4, .int x4), (5, .int x5)] [.int v16, .int ((16 * xv7)), .int 13] Th M15 0 0
        refine m_iadd dX11_afterTick_184 ?_
        refine m_imul dX11_afterTick_185 ?_
        refine m_iload dX11_afterTick_186 3 rfl ?_
        refine m_iadd dX11_afterTick_188 ?_
        obtain ⟨xv17, e_xv17⟩ : ∃ xv17 : Int32, xv17 = ((13 * ((16 * xv7) + v16)) + xv6) := ⟨_, rfl⟩
        have h := h xv17 e_xv17
        rw [← e_xv17]
        refine m_istore (lv' := [(11, .int xv17), (10, .int xv14), (9, .int xv8), (8, .int xv7), (7, .int xv6), (6, .int xv5), (0, .ref a0), (1, .int x1), (2, .int x2), (3, .int x3), (4, .int x4), (5, .int x5)]) dX11_afterTick_189 (by decide) rfl ?_
        refine m_aload_n dX11_afterTick_191 rfl 6 rfl ?_
        obtain ⟨r18, q19, h⟩ := h
        refine m_getr f_X11_75 rfl dX11_afterTick_192 q1 q19 ?_
        refine m_iload dX11_afterTick_195 1 rfl ?_
        refine m_aload_n dX11_afterTick_197 rfl 6 rfl ?_
        refine m_getr f_X11_75 rfl dX11_afterTick_198 q1 q19 ?_
        refine m_iload dX11_afterTick_201 1 rfl ?_
        obtain ⟨q20, h⟩ := h
        refine m_lald dX11_afterTick_203 q20 ?_
        refine m_aload_n dX11_afterTick_204 rfl 6 rfl ?_
        refine m_geti f_X11_285 rfl dX11_afterTick_205 q1 ?_
        refine m_i2l dX11_afterTick_208 ?_
        refine m_aload_n dX11_afterTick_209 rfl 6 rfl ?_
        obtain ⟨r21, q22, h⟩ := h
        refine m_getr f_X11_71 rfl dX11_afterTick_210 q1 q22 ?_
        refine m_iload dX11_afterTick_213 11 rfl ?_
        obtain ⟨q23, h⟩ := h
        refine m_lald dX11_afterTick_215 q23 ?_
        refine m_lmul dX11_afterTick_216 ?_
        refine m_ladd dX11_afterTick_217 ?_
        obtain ⟨q24, h⟩ := h
        refine m_last dX11_afterTick_218 q24 ?_
        refine m_aload_n dX11_afterTick_219 rfl 6 rfl ?_
        refine m_getr f_X11_75 rfl dX11_afterTick_220 q1 q19 ?_
        refine m_iload dX11_afterTick_223 0 rfl ?_
        refine m_aload_n dX11_afterTick_225 rfl 6 rfl ?_
        refine m_getr f_X11_75 rfl dX11_afterTick_226 q1 q19 ?_
        refine m_iload dX11_afterTick_229 0 rfl ?_
        obtain ⟨q25, h⟩ := h
        obtain ⟨M26, e_M26⟩ : ∃ M26 : mM, M26 = m_ul M15 r18 (Int32.toNatClampNeg xv14) ((((M15).2.1 r18 (Int32.toNatClampNeg xv14)) + ((((M15).1 a0 36) : Int32).toInt64 * ((M15).2.1 r21 (Int32.toNatClampNeg x5))))) := ⟨_, rfl⟩
        have h := h M26 e_M26
        rw [← e_M26]
        refine m_lald dX11_afterTick_231 q25 ?_
        refine m_bipush (v := 8) dX11_afterTick_232 (by decide) ?_
        refine m_aload_n dX11_afterTick_234 rfl 6 rfl ?_
        refine m_geti f_X11_282 rfl dX11_afterTick_235 q1 ?_
        refine m_isub dX11_afterTick_238 ?_
        refine m_aload_n dX11_afterTick_239 rfl 6 rfl ?_
        refine m_geti f_X11_285 rfl dX11_afterTick_240 q1 ?_
        refine m_isub dX11_afterTick_243 ?_
        refine m_i2l dX11_afterTick_244 ?_
        refine m_aload_n dX11_afterTick_245 rfl 6 rfl ?_
        refine m_getr f_X11_71 rfl dX11_afterTick_246 q1 (by rw [e_M26]; exact q22) ?_
        refine m_iload dX11_afterTick_249 11 rfl ?_
        refine m_lald dX11_afterTick_251 q23 ?_
        refine m_lmul dX11_afterTick_252 ?_
        refine m_ladd dX11_afterTick_253 ?_
        obtain ⟨q27, h⟩ := h
        refine m_last dX11_afterTick_254 q27 ?_
        refine m_aload_n dX11_afterTick_255 rfl 6 rfl ?_
        obtain ⟨M28, e_M28⟩ : ∃ M28 : mM, M28 = m_ul M26 r18 (Int32.toNatClampNeg xv17) ((((M26).2.1 r18 (Int32.toNatClampNeg xv17)) + ((((8 - ((M26).1 a0 35)) - ((M26).1 a0 36)) : Int32).toInt64 * ((M26).2.1 r21 (Int32.toNatClampNeg x5))))) := ⟨_, rfl⟩
        have h := h M28 e_M28
        rw [← e_M28]
        refine m_geti f_X11_282 rfl dX11_afterTick_256 q1 ?_
        refine m_if_le (tgt := 288) dX11_afterTick_259 (by decide) (fun c1 => ?_) (fun c1 => ?_)
        · rw [if_pos c1] at h
          refine m_iinc (v := x5 + 1) (lv' := [(5, .int (x5 + 1)), (11, .int xv17), (10, .int xv14), (9, .int xv8), (8, .int xv7), (7, .int xv6), (6, .int xv5), (0, .ref a0), (1, .int x1), (2, .int x2), (3, .int x3), (4, .int x4)]) dX11_afterTick_288 11 rfl rfl (by decide) rfl ?_
          refine m_goto (tgt := 28) dX11_afterTick_291 (by decide) ?_
          exact m_sub [7, 8, 9, 10, 11, 0] rfl h
        · rw [if_neg c1] at h
          refine m_aload_n dX11_afterTick_262 rfl 6 rfl ?_
          refine m_iload_n dX11_afterTick_263 rfl 7 rfl ?_
          refine m_iload_n dX11_afterTick_264 rfl 8 rfl ?_
          refine m_iload dX11_afterTick_265 3 rfl ?_
          refine m_iload_n dX11_afterTick_267 rfl 9 rfl ?_
          refine m_iload dX11_afterTick_268 4 rfl ?_
          refine m_iload dX11_afterTick_270 10 rfl ?_
          refine m_aload_n dX11_afterTick_272 rfl 6 rfl ?_
          refine m_geti f_X11_282 rfl dX11_afterTick_273 q1 ?_
          refine m_i2l dX11_afterTick_276 ?_
          refine m_aload_n dX11_afterTick_277 rfl 6 rfl ?_
          refine m_getr f_X11_71 rfl dX11_afterTick_278 q1 (by rw [e_M28, e_M26]; exact q22) ?_
          refine m_iload dX11_afterTick_281 11 rfl ?_
          refine m_lald dX11_afterTick_283 q23 ?_
          refine m_lmul dX11_afterTick_284 ?_
          refine m_invV (ci := 11) (As := [.int x1, .int x2, .int xv7, .int x3, .int xv6, .int x4, .long (((((M28).1 a0 35) : Int32).toInt64 * ((M28).2.1 r21 (Int32.toNatClampNeg x5))))]) (d' := d) (mc' := 0) (ms' := 0) (rest := []) i_11_solvesAfter v_11_solvesAfter t_11_solvesAfter l_X11_345 ⟨_, _, rfl⟩ dX11_afterTick_285 rfl rfl q1 (Nat.le_of_ble_eq_true rfl) (Nat.le_refl _) ⟨Nat.le_refl _, Nat.le_refl _⟩ (m_Cv h (fun M29 h => ?_))
          show m_W (d + 1) 0 0 yX11_afterTick cX11_afterTick 12 none (m_qv Th Q) 288 [(11, .int xv17), (10, .int xv14), (9, .int xv8), (8, .int xv7), (7, .int xv6), (6, .int xv5), (0, .ref a0), (1, .int x1), (2, .int x2), (3, .int x3), (4, .int x4), (5, .int x5)] [] Th M29 0 0
          refine m_iinc (v := x5 + 1) (lv' := [(5, .int (x5 + 1)), (11, .int xv17), (10, .int xv14), (9, .int xv8), (8, .int xv7), (7, .int xv6), (6, .int xv5), (0, .ref a0), (1, .int x1), (2, .int x2), (3, .int x3), (4, .int x4)]) dX11_afterTick_288 11 rfl rfl (by decide) rfl ?_
          refine m_goto (tgt := 28) dX11_afterTick_291 (by decide) ?_
          exact m_sub [7, 8, 9, 10, 11, 0] rfl h
      · rw [if_neg c1] at h
        refine m_bipush (v := 13) dX11_afterTick_90 (by decide) ?_
        refine m_iload dX11_afterTick_92 3 rfl ?_
        refine m_aload_n dX11_afterTick_94 rfl 4 rfl ?_
        refine m_geti f_X11_141 rfl dX11_afterTick_95 q1 ?_
        refine m_invS (As := [.int xv5, .int (((M).1 a0 0))]) (d' := d) (mc' := 0) (ms' := 0) (rest := [.int 13]) i_11_goesOn s_11_goesOn l_X11_292 dX11_afterTick_98 rfl rfl (Nat.le_of_ble_eq_true rfl) (Nat.le_refl _) ⟨Nat.le_refl _, Nat.le_refl _⟩ (m_Ci h (fun v32 M31 h => ?_))
        show m_W (d + 1) 0 0 yX11_afterTick cX11_afterTick 12 none (m_qv Th Q) 101 [(9, .int xv8), (8, .int xv7), (7, .int xv6), (6, .int xv5), (0, .ref a0), (1, .int x1), (2, .int x2), (3, .int x3), (4, .int x4), (5, .int x5)] [.int v32, .int 13] Th M31 0 0
        refine m_imul dX11_afterTick_101 ?_
        refine m_iload dX11_afterTick_102 2 rfl ?_
        refine m_iadd dX11_afterTick_104 ?_
        obtain ⟨xv33, e_xv33⟩ : ∃ xv33 : Int32, xv33 = ((13 * v32) + xv6) := ⟨_, rfl⟩
        have h := h xv33 e_xv33
        rw [← e_xv33]
        refine m_istore (lv' := [(10, .int xv33), (9, .int xv8), (8, .int xv7), (7, .int xv6), (6, .int xv5), (0, .ref a0), (1, .int x1), (2, .int x2), (3, .int x3), (4, .int x4), (5, .int x5)]) dX11_afterTick_105 (by decide) rfl ?_
        refine m_aload_n dX11_afterTick_107 rfl 5 rfl ?_
        obtain ⟨r34, q35, h⟩ := h
        refine m_getr f_X11_75 rfl dX11_afterTick_108 q1 q35 ?_
        refine m_iload dX11_afterTick_111 0 rfl ?_
        refine m_aload_n dX11_afterTick_113 rfl 5 rfl ?_
        refine m_getr f_X11_75 rfl dX11_afterTick_114 q1 q35 ?_
        refine m_iload dX11_afterTick_117 0 rfl ?_
        obtain ⟨q36, h⟩ := h
        refine m_lald dX11_afterTick_119 q36 ?_
        refine m_ldc2 k_X11_295 dX11_afterTick_120 ?_
        refine m_aload_n dX11_afterTick_123 rfl 5 rfl ?_
        obtain ⟨r37, q38, h⟩ := h
        refine m_getr f_X11_71 rfl dX11_afterTick_124 q1 q38 ?_
        refine m_iload dX11_afterTick_127 10 rfl ?_
        obtain ⟨q39, h⟩ := h
        refine m_lald dX11_afterTick_129 q39 ?_
        refine m_lmul dX11_afterTick_130 ?_
        refine m_ladd dX11_afterTick_131 ?_
        obtain ⟨q40, h⟩ := h
        refine m_last dX11_afterTick_132 q40 ?_
        refine m_goto (tgt := 288) dX11_afterTick_133 (by decide) ?_
        refine m_iinc (v := x5 + 1) (lv' := [(5, .int (x5 + 1)), (10, .int xv33), (9, .int xv8), (8, .int xv7), (7, .int xv6), (6, .int xv5), (0, .ref a0), (1, .int x1), (2, .int x2), (3, .int x3), (4, .int x4)]) dX11_afterTick_288 10 rfl rfl (by decide) rfl ?_
        refine m_goto (tgt := 28) dX11_afterTick_291 (by decide) ?_
        exact m_sub [6, 7, 8, 9, 10, 0] rfl h
    · rw [if_pos c1] at h
      refine m_goto (tgt := 288) dX11_afterTick_53 (by decide) ?_
      refine m_iinc (v := x5 + 1) (lv' := [(5, .int (x5 + 1)), (0, .ref a0), (1, .int x1), (2, .int x2), (3, .int x3), (4, .int x4)]) dX11_afterTick_288 5 rfl rfl (by decide) rfl ?_
      refine m_goto (tgt := 28) dX11_afterTick_291 (by decide) ?_
      exact m_sub [1, 2, 3, 4, 5, 0] rfl h
set_option maxHeartbeats 4000000 in
set_option maxRecDepth 100000 in
theorem h11_afterTick_297 {d : Nat} {Th : mT} {Q : mM → Prop} {a0 : Nat} {x5 : Int32} {M : mM} (h : if 1040 ≤ x5 then (Q M) else (Th.2.2 a0 = some (.inl 11) ∧ (∃ r2 : Nat, M.2.2 a0 37 = some r2 ∧ (∃ r4 : Nat, M.2.2 a0 38 = some r4 ∧ (m_ok Th r4 .long x5 ∧ (m_okw Th r2 .long x5 ∧ (H11_afterTick_297 (d + 1) Th Q a0 (x5 + 1) (m_ul M r2 (Int32.toNatClampNeg x5) (((M).2.1 r4 (Int32.toNatClampNeg x5))))))))))) : H11_afterTick_297 (d + 1) Th Q a0 x5 M := by
  show m_W (d + 1) 0 0 yX11_afterTick cX11_afterTick 12 none (m_qv Th Q) 297 [(0, .ref a0), (5, .int x5)] [] Th M 0 0
  refine m_iload dX11_afterTick_297 1 rfl ?_
  refine m_sipush (v := 1040) dX11_afterTick_299 (by decide) ?_
  refine m_icmp_ge (tgt := 325) dX11_afterTick_302 (by decide) (fun c1 => ?_) (fun c1 => ?_)
  · rw [if_pos c1] at h
    exact m_return dX11_afterTick_325 rfl ⟨rfl, rfl, h⟩
  · rw [if_neg c1] at h
    refine m_aload_n dX11_afterTick_305 rfl 0 rfl ?_
    obtain ⟨q1, h⟩ := h
    obtain ⟨r2, q3, h⟩ := h
    refine m_getr f_X11_71 rfl dX11_afterTick_306 q1 q3 ?_
    refine m_iload dX11_afterTick_309 1 rfl ?_
    refine m_aload_n dX11_afterTick_311 rfl 0 rfl ?_
    obtain ⟨r4, q5, h⟩ := h
    refine m_getr f_X11_75 rfl dX11_afterTick_312 q1 q5 ?_
    refine m_iload dX11_afterTick_315 1 rfl ?_
    obtain ⟨q6, h⟩ := h
    refine m_lald dX11_afterTick_317 q6 ?_
    obtain ⟨q7, h⟩ := h
    refine m_last dX11_afterTick_318 q7 ?_
    refine m_iinc (v := x5 + 1) (lv' := [(5, .int (x5 + 1)), (0, .ref a0)]) dX11_afterTick_319 1 rfl rfl (by decide) rfl ?_
    refine m_goto (tgt := 297) dX11_afterTick_322 (by decide) ?_
    exact m_sub [1, 0] rfl h
set_option maxHeartbeats 4000000 in
set_option maxRecDepth 100000 in
theorem e11_afterTick {d : Nat} {Th : mT} {Q : mM → Prop} {a0 : Nat} {x1 : Int32} {x2 : Int32} {x3 : Int32} {x4 : Int32} {M : mM} (h : H11_afterTick_3 (d + 1) Th Q a0 x1 x2 x3 x4 0 M) : P11_afterTick (d + 1) Th a0 x1 x2 x3 x4 M Q := by
  refine m_C.of (by decide +kernel) (Nat.le_of_ble_eq_true rfl) ?_
  show m_W (d + 1) 0 0 yX11_afterTick cX11_afterTick 12 none (m_qv Th Q) 0 [(0, .ref a0), (1, .int x1), (2, .int x2), (3, .int x3), (4, .int x4)] [] Th M 0 0
  refine m_iconst (v := 0) dX11_afterTick_0 (by decide) ?_
  refine m_istore (lv' := [(5, .int 0), (0, .ref a0), (1, .int x1), (2, .int x2), (3, .int x3), (4, .int x4)]) dX11_afterTick_1 (by decide) rfl ?_
  exact m_sub [1, 2, 3, 4, 5, 0] rfl h
set_option maxHeartbeats 4000000 in
set_option maxRecDepth 100000 in
theorem h11_goesAfter_3 {d : Nat} {Th : mT} {Q : mM → Prop} {a0 : Nat} {x1 : Int32} {x2 : Int32} {x3 : Int32} {x4 : Int32} {M : mM} (h : if 1040 ≤ x4 then (Th.2.2 a0 = some (.inl 11) ∧ (∃ r2 : Nat, M.2.2 a0 37 = some r2 ∧ (m_okw Th r2 .long 0 ∧ (∀ M5 : mM, M5 = m_ul M r2 (Int32.toNatClampNeg 0) 1 → ∀ M6 : mM, M6 = m_ul M5 a0 44 0 → H11_goesAfter_45 (d + 1) Th Q a0 x1 x2 x3 1 (m_ul M6 a0 45 0))))) else (Th.2.2 a0 = some (.inl 11) ∧ (∃ r8 : Nat, M.2.2 a0 37 = some r8 ∧ (m_okw Th r8 .long x4 ∧ (H11_goesAfter_3 (d + 1) Th Q a0 x1 x2 x3 (x4 + 1) (m_ul M r8 (Int32.toNatClampNeg x4) 0)))))) : H11_goesAfter_3 (d + 1) Th Q a0 x1 x2 x3 x4 M := by
  show m_W (d + 1) 0 0 yX11_goesAfter cX11_goesAfter 5 none (m_qv Th Q) 3 [(0, .ref a0), (1, .int x1), (2, .int x2), (3, .int x3), (4, .int x4)] [] Th M 0 0
  refine m_iload dX11_goesAfter_3 4 rfl ?_
  refine m_sipush (v := 1040) dX11_goesAfter_5 (by decide) ?_
  refine m_icmp_ge (tgt := 25) dX11_goesAfter_8 (by decide) (fun c1 => ?_) (fun c1 => ?_)
  · rw [if_pos c1] at h
    refine m_aload_n dX11_goesAfter_25 rfl 0 rfl ?_
    obtain ⟨q1, h⟩ := h
    obtain ⟨r2, q3, h⟩ := h
    refine m_getr f_X11_71 rfl dX11_goesAfter_26 q1 q3 ?_
    refine m_iconst (v := 0) dX11_goesAfter_29 (by decide) ?_
    refine m_lconst (v := 1) dX11_goesAfter_30 (by decide) ?_
    obtain ⟨q4, h⟩ := h
    refine m_last dX11_goesAfter_31 q4 ?_
    refine m_aload_n dX11_goesAfter_32 rfl 0 rfl ?_
    refine m_lconst (v := 0) dX11_goesAfter_33 (by decide) ?_
    obtain ⟨M5, e_M5⟩ : ∃ M5 : mM, M5 = m_ul M r2 (Int32.toNatClampNeg 0) 1 := ⟨_, rfl⟩
    have h := h M5 e_M5
    rw [← e_M5]
    refine m_putl f_X11_339 (Or.inl rfl) dX11_goesAfter_34 q1 ?_
    refine m_aload_n dX11_goesAfter_37 rfl 0 rfl ?_
    refine m_lconst (v := 0) dX11_goesAfter_38 (by decide) ?_
    obtain ⟨M6, e_M6⟩ : ∃ M6 : mM, M6 = m_ul M5 a0 44 0 := ⟨_, rfl⟩
    have h := h M6 e_M6
    rw [← e_M6]
    refine m_putl f_X11_342 (Or.inl rfl) dX11_goesAfter_39 q1 ?_
    refine m_iconst (v := 1) dX11_goesAfter_42 (by decide) ?_
    refine m_istore (lv' := [(4, .int 1), (0, .ref a0), (1, .int x1), (2, .int x2), (3, .int x3)]) dX11_goesAfter_43 (by decide) rfl ?_
    exact m_sub [1, 2, 3, 4, 0] rfl h
  · rw [if_neg c1] at h
    refine m_aload_n dX11_goesAfter_11 rfl 0 rfl ?_
    obtain ⟨q7, h⟩ := h
    obtain ⟨r8, q9, h⟩ := h
    refine m_getr f_X11_71 rfl dX11_goesAfter_12 q7 q9 ?_
    refine m_iload dX11_goesAfter_15 4 rfl ?_
    refine m_lconst (v := 0) dX11_goesAfter_17 (by decide) ?_
    obtain ⟨q10, h⟩ := h
    refine m_last dX11_goesAfter_18 q10 ?_
    refine m_iinc (v := x4 + 1) (lv' := [(4, .int (x4 + 1)), (0, .ref a0), (1, .int x1), (2, .int x2), (3, .int x3)]) dX11_goesAfter_19 4 rfl rfl (by decide) rfl ?_
    refine m_goto (tgt := 3) dX11_goesAfter_22 (by decide) ?_
    exact m_sub [1, 2, 3, 4, 0] rfl h
set_option maxHeartbeats 4000000 in
set_option maxRecDepth 100000 in
theorem h11_goesAfter_45 {d : Nat} {Th : mT} {Q : mM → Prop} {a0 : Nat} {x1 : Int32} {x2 : Int32} {x3 : Int32} {x4 : Int32} {M : mM} (h : if x3 < x4 then (Q M) else (Th.2.2 a0 = some (.inl 11) ∧ (P11_afterTick d Th a0 x1 x2 x4 x3 M (fun M1 : mM => H11_goesAfter_45 (d + 1) Th Q a0 x1 x2 x3 (x4 + 1) M1)))) : H11_goesAfter_45 (d + 1) Th Q a0 x1 x2 x3 x4 M := by
  show m_W (d + 1) 0 0 yX11_goesAfter cX11_goesAfter 5 none (m_qv Th Q) 45 [(0, .ref a0), (1, .int x1), (2, .int x2), (3, .int x3), (4, .int x4)] [] Th M 0 0
  refine m_iload dX11_goesAfter_45 4 rfl ?_
  refine m_iload_n dX11_goesAfter_47 rfl 3 rfl ?_
  refine m_icmp_gt (tgt := 66) dX11_goesAfter_48 (by decide) (fun c1 => ?_) (fun c1 => ?_)
  · rw [if_pos c1] at h
    exact m_return dX11_goesAfter_66 rfl ⟨rfl, rfl, h⟩
  · rw [if_neg c1] at h
    refine m_aload_n dX11_goesAfter_51 rfl 0 rfl ?_
    refine m_iload_n dX11_goesAfter_52 rfl 1 rfl ?_
    refine m_iload_n dX11_goesAfter_53 rfl 2 rfl ?_
    refine m_iload dX11_goesAfter_54 4 rfl ?_
    refine m_iload_n dX11_goesAfter_56 rfl 3 rfl ?_
    obtain ⟨q3, h⟩ := h
    refine m_invV (ci := 11) (As := [.int x1, .int x2, .int x4, .int x3]) (d' := d) (mc' := 0) (ms' := 0) (rest := []) i_11_afterTick v_11_afterTick t_11_afterTick l_X11_349 ⟨_, _, rfl⟩ dX11_goesAfter_57 rfl rfl q3 (Nat.le_of_ble_eq_true rfl) (Nat.le_refl _) ⟨Nat.le_refl _, Nat.le_refl _⟩ (m_Cv h (fun M1 h => ?_))
    show m_W (d + 1) 0 0 yX11_goesAfter cX11_goesAfter 5 none (m_qv Th Q) 60 [(0, .ref a0), (1, .int x1), (2, .int x2), (3, .int x3), (4, .int x4)] [] Th M1 0 0
    refine m_iinc (v := x4 + 1) (lv' := [(4, .int (x4 + 1)), (0, .ref a0), (1, .int x1), (2, .int x2), (3, .int x3)]) dX11_goesAfter_60 4 rfl rfl (by decide) rfl ?_
    refine m_goto (tgt := 45) dX11_goesAfter_63 (by decide) ?_
    exact m_sub [1, 2, 3, 4, 0] rfl h
set_option maxHeartbeats 4000000 in
set_option maxRecDepth 100000 in
theorem e11_goesAfter {d : Nat} {Th : mT} {Q : mM → Prop} {a0 : Nat} {x1 : Int32} {x2 : Int32} {x3 : Int32} {M : mM} (h : H11_goesAfter_3 (d + 1) Th Q a0 x1 x2 x3 0 M) : P11_goesAfter (d + 1) Th a0 x1 x2 x3 M Q := by
  refine m_C.of (by decide +kernel) (Nat.le_of_ble_eq_true rfl) ?_
  show m_W (d + 1) 0 0 yX11_goesAfter cX11_goesAfter 5 none (m_qv Th Q) 0 [(0, .ref a0), (1, .int x1), (2, .int x2), (3, .int x3)] [] Th M 0 0
  refine m_iconst (v := 0) dX11_goesAfter_0 (by decide) ?_
  refine m_istore (lv' := [(4, .int 0), (0, .ref a0), (1, .int x1), (2, .int x2), (3, .int x3)]) dX11_goesAfter_1 (by decide) rfl ?_
  exact m_sub [1, 2, 3, 4, 0] rfl h
set_option maxHeartbeats 4000000 in
set_option maxRecDepth 100000 in
theorem e11_after {d : Nat} {Th : mT} {Q : Int64 → mM → Prop} {a0 : Nat} {x1 : Int32} {x2 : Int32} {x3 : Int32} {x4 : Int32} {M : mM} (h : Th.2.2 a0 = some (.inl 11) ∧ (P11_areTwo d Th a0 x1 x2 M (fun (v2 : Int32) (M1 : mM) => if v2 = 0 then (Q (-1) M1) else (P11_in d Th x3 1 10 M1 (fun (v5 : Int32) (M4 : mM) => if v5 = 0 then (Q (-1) M4) else (P11_in d Th x4 0 1 M4 (fun (v7 : Int32) (M6 : mM) => if v7 = 0 then (Q (-1) M6) else (P11_goesAfter d Th a0 x1 x2 x3 M6 (fun M8 : mM => if x4 = 0 then (Q (((M8).2.1 a0 44)) M8) else (Q (((M8).2.1 a0 45)) M8)))))))))) : P11_after (d + 1) Th a0 x1 x2 x3 x4 M Q := by
  refine m_C.of (by decide +kernel) (Nat.le_of_ble_eq_true rfl) ?_
  show m_W (d + 1) 0 0 yX11_after cX11_after 5 (some .long) (m_ql Th Q) 0 [(0, .ref a0), (1, .int x1), (2, .int x2), (3, .int x3), (4, .int x4)] [] Th M 0 0
  refine m_aload_n dX11_after_0 rfl 0 rfl ?_
  refine m_iload_n dX11_after_1 rfl 1 rfl ?_
  refine m_iload_n dX11_after_2 rfl 2 rfl ?_
  obtain ⟨q3, h⟩ := h
  refine m_invV (ci := 11) (As := [.int x1, .int x2]) (d' := d) (mc' := 0) (ms' := 0) (rest := []) i_11_areTwo v_11_areTwo t_11_areTwo l_X11_323 ⟨_, _, rfl⟩ dX11_after_3 rfl rfl q3 (Nat.le_of_ble_eq_true rfl) (Nat.le_refl _) ⟨Nat.le_refl _, Nat.le_refl _⟩ (m_Ci h (fun v2 M1 h => ?_))
  show m_W (d + 1) 0 0 yX11_after cX11_after 5 (some .long) (m_ql Th Q) 6 [(0, .ref a0), (1, .int x1), (2, .int x2), (3, .int x3), (4, .int x4)] [.int v2] Th M1 0 0
  refine m_if_eq (tgt := 29) dX11_after_6 (by decide) (fun c1 => ?_) (fun c1 => ?_)
  · rw [if_pos c1] at h
    refine m_ldc2 k_X11_308 dX11_after_29 ?_
    exact m_lreturn dX11_after_32 rfl ⟨rfl, _, rfl, h⟩
  · rw [if_neg c1] at h
    refine m_iload_n dX11_after_9 rfl 3 rfl ?_
    refine m_iconst (v := 1) dX11_after_10 (by decide) ?_
    refine m_bipush (v := 10) dX11_after_11 (by decide) ?_
    refine m_invS (As := [.int x3, .int 1, .int 10]) (d' := d) (mc' := 0) (ms' := 0) (rest := []) i_11_in s_11_in l_X11_148 dX11_after_13 rfl rfl (Nat.le_of_ble_eq_true rfl) (Nat.le_refl _) ⟨Nat.le_refl _, Nat.le_refl _⟩ (m_Ci h (fun v5 M4 h => ?_))
    show m_W (d + 1) 0 0 yX11_after cX11_after 5 (some .long) (m_ql Th Q) 16 [(0, .ref a0), (1, .int x1), (2, .int x2), (3, .int x3), (4, .int x4)] [.int v5] Th M4 0 0
    refine m_if_eq (tgt := 29) dX11_after_16 (by decide) (fun c1 => ?_) (fun c1 => ?_)
    · rw [if_pos c1] at h
      refine m_ldc2 k_X11_308 dX11_after_29 ?_
      exact m_lreturn dX11_after_32 rfl ⟨rfl, _, rfl, h⟩
    · rw [if_neg c1] at h
      refine m_iload dX11_after_19 4 rfl ?_
      refine m_iconst (v := 0) dX11_after_21 (by decide) ?_
      refine m_iconst (v := 1) dX11_after_22 (by decide) ?_
      refine m_invS (As := [.int x4, .int 0, .int 1]) (d' := d) (mc' := 0) (ms' := 0) (rest := []) i_11_in s_11_in l_X11_148 dX11_after_23 rfl rfl (Nat.le_of_ble_eq_true rfl) (Nat.le_refl _) ⟨Nat.le_refl _, Nat.le_refl _⟩ (m_Ci h (fun v7 M6 h => ?_))
      show m_W (d + 1) 0 0 yX11_after cX11_after 5 (some .long) (m_ql Th Q) 26 [(0, .ref a0), (1, .int x1), (2, .int x2), (3, .int x3), (4, .int x4)] [.int v7] Th M6 0 0
      refine m_if_ne (tgt := 33) dX11_after_26 (by decide) (fun c1 => ?_) (fun c1 => ?_)
      · rw [if_neg c1] at h
        refine m_aload_n dX11_after_33 rfl 0 rfl ?_
        refine m_iload_n dX11_after_34 rfl 1 rfl ?_
        refine m_iload_n dX11_after_35 rfl 2 rfl ?_
        refine m_iload_n dX11_after_36 rfl 3 rfl ?_
        refine m_invV (ci := 11) (As := [.int x1, .int x2, .int x3]) (d' := d) (mc' := 0) (ms' := 0) (rest := []) i_11_goesAfter v_11_goesAfter t_11_goesAfter l_X11_352 ⟨_, _, rfl⟩ dX11_after_37 rfl rfl q3 (Nat.le_of_ble_eq_true rfl) (Nat.le_refl _) ⟨Nat.le_refl _, Nat.le_refl _⟩ (m_Cv h (fun M8 h => ?_))
        show m_W (d + 1) 0 0 yX11_after cX11_after 5 (some .long) (m_ql Th Q) 40 [(0, .ref a0), (1, .int x1), (2, .int x2), (3, .int x3), (4, .int x4)] [] Th M8 0 0
        refine m_iload dX11_after_40 4 rfl ?_
        refine m_if_ne (tgt := 52) dX11_after_42 (by decide) (fun c1 => ?_) (fun c1 => ?_)
        · rw [if_neg c1] at h
          refine m_aload_n dX11_after_52 rfl 0 rfl ?_
          refine m_getl f_X11_342 dX11_after_53 q3 ?_
          exact m_lreturn dX11_after_56 rfl ⟨rfl, _, rfl, h⟩
        · rw [if_pos c1] at h
          refine m_aload_n dX11_after_45 rfl 0 rfl ?_
          refine m_getl f_X11_339 dX11_after_46 q3 ?_
          refine m_goto (tgt := 56) dX11_after_49 (by decide) ?_
          exact m_lreturn dX11_after_56 rfl ⟨rfl, _, rfl, h⟩
      · rw [if_pos c1] at h
        refine m_ldc2 k_X11_308 dX11_after_29 ?_
        exact m_lreturn dX11_after_32 rfl ⟨rfl, _, rfl, h⟩
set_option maxHeartbeats 4000000 in
set_option maxRecDepth 100000 in
theorem h11_edge_27 {d : Nat} {Th : mT} {Q : Int32 → mM → Prop} {a0 : Nat} {x1 : Int32} {l3 : Int64} {x5 : Int32} {M : mM} (h : if 10 ≤ x5 then (Q 10 M) else (Th.2.2 a0 = some (.inl 11) ∧ (P11_goesAlone d Th a0 x1 x5 (((M).1 a0 0)) 10 M (fun M2 : mM => if (lg_cmp (((M2).2.1 a0 40)) l3) ≤ 0 then (H11_edge_27 (d + 1) Th Q a0 x1 l3 (x5 + 1) M2) else (Q x5 M2))))) : H11_edge_27 (d + 1) Th Q a0 x1 l3 x5 M := by
  show m_W (d + 1) 0 0 yX11_edge cX11_edge 6 (some .int) (m_qi Th Q) 27 [(0, .ref a0), (1, .int x1), (3, .long l3), (5, .int x5)] [] Th M 0 0
  refine m_iload dX11_edge_27 3 rfl ?_
  refine m_bipush (v := 10) dX11_edge_29 (by decide) ?_
  refine m_icmp_ge (tgt := 65) dX11_edge_31 (by decide) (fun c1 => ?_) (fun c1 => ?_)
  · rw [if_pos c1] at h
    refine m_bipush (v := 10) dX11_edge_65 (by decide) ?_
    exact m_ireturn dX11_edge_67 rfl rfl ⟨rfl, _, rfl, h⟩
  · rw [if_neg c1] at h
    refine m_aload_n dX11_edge_34 rfl 0 rfl ?_
    refine m_iload_n dX11_edge_35 rfl 1 rfl ?_
    refine m_iload dX11_edge_36 3 rfl ?_
    refine m_aload_n dX11_edge_38 rfl 0 rfl ?_
    obtain ⟨q1, h⟩ := h
    refine m_geti f_X11_141 rfl dX11_edge_39 q1 ?_
    refine m_bipush (v := 10) dX11_edge_42 (by decide) ?_
    refine m_invV (ci := 11) (As := [.int x1, .int x5, .int (((M).1 a0 0)), .int 10]) (d' := d) (mc' := 0) (ms' := 0) (rest := []) i_11_goesAlone v_11_goesAlone t_11_goesAlone l_X11_310 ⟨_, _, rfl⟩ dX11_edge_44 rfl rfl q1 (Nat.le_of_ble_eq_true rfl) (Nat.le_refl _) ⟨Nat.le_refl _, Nat.le_refl _⟩ (m_Cv h (fun M2 h => ?_))
    show m_W (d + 1) 0 0 yX11_edge cX11_edge 6 (some .int) (m_qi Th Q) 47 [(0, .ref a0), (1, .int x1), (3, .long l3), (5, .int x5)] [] Th M2 0 0
    refine m_aload_n dX11_edge_47 rfl 0 rfl ?_
    refine m_getl f_X11_300 dX11_edge_48 q1 ?_
    refine m_lload_n dX11_edge_51 rfl 2 rfl ?_
    refine m_lcmp dX11_edge_52 ?_
    refine m_if_le (tgt := 59) dX11_edge_53 (by decide) (fun c1 => ?_) (fun c1 => ?_)
    · rw [if_pos c1] at h
      refine m_iinc (v := x5 + 1) (lv' := [(5, .int (x5 + 1)), (0, .ref a0), (1, .int x1), (3, .long l3)]) dX11_edge_59 3 rfl rfl (by decide) rfl ?_
      refine m_goto (tgt := 27) dX11_edge_62 (by decide) ?_
      exact m_sub [1, 2, 3, 0] rfl h
    · rw [if_neg c1] at h
      refine m_iload dX11_edge_56 3 rfl ?_
      exact m_ireturn dX11_edge_58 rfl rfl ⟨rfl, _, rfl, h⟩
set_option maxHeartbeats 4000000 in
set_option maxRecDepth 100000 in
theorem e11_edge {d : Nat} {Th : mT} {Q : Int32 → mM → Prop} {a0 : Nat} {x1 : Int32} {x2 : Int32} {M : mM} (h : Th.2.2 a0 = some (.inl 11) ∧ (P11_areTwo d Th a0 x1 x2 M (fun (v2 : Int32) (M1 : mM) => if v2 = 0 then (Q (-1) M1) else (P11_goesAfter d Th a0 x1 x2 10 M1 (fun M4 : mM => ∀ lv6 : Int64, lv6 = ((M4).2.1 a0 44) → H11_edge_27 (d + 1) Th Q a0 x1 lv6 0 M4))))) : P11_edge (d + 1) Th a0 x1 x2 M Q := by
  refine m_C.of (by decide +kernel) (Nat.le_of_ble_eq_true rfl) ?_
  show m_W (d + 1) 0 0 yX11_edge cX11_edge 6 (some .int) (m_qi Th Q) 0 [(0, .ref a0), (1, .int x1), (2, .int x2)] [] Th M 0 0
  refine m_aload_n dX11_edge_0 rfl 0 rfl ?_
  refine m_iload_n dX11_edge_1 rfl 1 rfl ?_
  refine m_iload_n dX11_edge_2 rfl 2 rfl ?_
  obtain ⟨q3, h⟩ := h
  refine m_invV (ci := 11) (As := [.int x1, .int x2]) (d' := d) (mc' := 0) (ms' := 0) (rest := []) i_11_areTwo v_11_areTwo t_11_areTwo l_X11_323 ⟨_, _, rfl⟩ dX11_edge_3 rfl rfl q3 (Nat.le_of_ble_eq_true rfl) (Nat.le_refl _) ⟨Nat.le_refl _, Nat.le_refl _⟩ (m_Ci h (fun v2 M1 h => ?_))
  show m_W (d + 1) 0 0 yX11_edge cX11_edge 6 (some .int) (m_qi Th Q) 6 [(0, .ref a0), (1, .int x1), (2, .int x2)] [.int v2] Th M1 0 0
  refine m_if_ne (tgt := 11) dX11_edge_6 (by decide) (fun c1 => ?_) (fun c1 => ?_)
  · rw [if_neg c1] at h
    refine m_aload_n dX11_edge_11 rfl 0 rfl ?_
    refine m_iload_n dX11_edge_12 rfl 1 rfl ?_
    refine m_iload_n dX11_edge_13 rfl 2 rfl ?_
    refine m_bipush (v := 10) dX11_edge_14 (by decide) ?_
    refine m_invV (ci := 11) (As := [.int x1, .int x2, .int 10]) (d' := d) (mc' := 0) (ms' := 0) (rest := []) i_11_goesAfter v_11_goesAfter t_11_goesAfter l_X11_352 ⟨_, _, rfl⟩ dX11_edge_16 rfl rfl q3 (Nat.le_of_ble_eq_true rfl) (Nat.le_refl _) ⟨Nat.le_refl _, Nat.le_refl _⟩ (m_Cv h (fun M4 h => ?_))
    show m_W (d + 1) 0 0 yX11_edge cX11_edge 6 (some .int) (m_qi Th Q) 19 [(0, .ref a0), (1, .int x1), (2, .int x2)] [] Th M4 0 0
    refine m_aload_n dX11_edge_19 rfl 0 rfl ?_
    refine m_getl f_X11_339 dX11_edge_20 q3 ?_
    obtain ⟨lv6, e_lv6⟩ : ∃ lv6 : Int64, lv6 = ((M4).2.1 a0 44) := ⟨_, rfl⟩
    have h := h lv6 e_lv6
    rw [← e_lv6]
    refine m_lstore_n (lv' := [(3, .long lv6), (0, .ref a0), (1, .int x1), (2, .int x2)]) dX11_edge_23 rfl (by decide) rfl ?_
    refine m_iconst (v := 0) dX11_edge_24 (by decide) ?_
    refine m_istore (lv' := [(5, .int 0), (3, .long lv6), (0, .ref a0), (1, .int x1), (2, .int x2)]) dX11_edge_25 (by decide) rfl ?_
    exact m_sub [2, 3, 1, 0] rfl h
  · rw [if_pos c1] at h
    refine m_iconst (v := (-1)) dX11_edge_9 (by decide) ?_
    exact m_ireturn dX11_edge_10 rfl rfl ⟨rfl, _, rfl, h⟩
set_option maxHeartbeats 4000000 in
set_option maxRecDepth 100000 in
theorem h11_takenX_102 {d : Nat} {Th : mT} {Q : Int32 → mM → Prop} {x2 : Int32} {s0 : Int32} {M : mM} (h : Q ((if s0 = (-1) then (-1) else ((21 * x2) + s0))) M) : H11_takenX_102 (d + 1) Th Q x2 s0 M := by
  show m_W (d + 1) 0 0 yX11_takenX cX11_takenX 5 (some .int) (m_qi Th Q) 102 [(2, .int x2)] [.int s0] Th M 0 0
  refine m_istore (lv' := [(4, .int s0), (2, .int x2)]) dX11_takenX_102 (by decide) rfl ?_
  refine m_iload dX11_takenX_104 0 rfl ?_
  refine m_iconst (v := (-1)) dX11_takenX_106 (by decide) ?_
  have hJ : m_W (d + 1) 0 0 yX11_takenX cX11_takenX 5 (some .int) (m_qi Th Q) 121 [(4, .int s0), (2, .int x2)] [.int ((if s0 = (-1) then (-1) else ((21 * x2) + s0)))] Th M 0 0 := by
    exact m_ireturn dX11_takenX_121 rfl rfl ⟨rfl, _, rfl, h⟩
  refine m_icmp_ne (tgt := 114) dX11_takenX_107 (by decide) (fun c1 => ?_) (fun c1 => ?_)
  · simp only [if_neg c1] at hJ
    refine m_bipush (v := 21) dX11_takenX_114 (by decide) ?_
    refine m_iload_n dX11_takenX_116 rfl 1 rfl ?_
    refine m_imul dX11_takenX_117 ?_
    refine m_iload dX11_takenX_118 0 rfl ?_
    refine m_iadd dX11_takenX_120 ?_
    exact hJ
  · simp only [if_pos c1] at hJ
    refine m_iconst (v := (-1)) dX11_takenX_110 (by decide) ?_
    refine m_goto (tgt := 121) dX11_takenX_111 (by decide) ?_
    exact hJ
set_option maxHeartbeats 4000000 in
set_option maxRecDepth 100000 in
theorem e11_takenX {d : Nat} {Th : mT} {Q : Int32 → mM → Prop} {a0 : Nat} {x1 : Int32} {M : mM} (h : ∀ xv1 : Int32, xv1 = (x1 / 100) → ∀ xv2 : Int32, xv2 = (x1 - x1 / 100 * 100) → if x1 < 0 then (Q (-1) M) else (Th.2.2 a0 = some (.inl 11) ∧ (P11_isRiddle d Th a0 xv1 M (fun (v4 : Int32) (M3 : mM) => if v4 = 0 then (Q (-1) M3) else (P11_in d Th xv2 0 5 M3 (fun (v7 : Int32) (M6 : mM) => if v7 = 0 then (if xv2 = 10 then (H11_takenX_102 (d + 1) Th Q xv1 6 M6) else (P11_in d Th xv2 11 16 M6 (fun (v9 : Int32) (M8 : mM) => if v9 = 0 then (P11_in d Th xv2 21 24 M8 (fun (v11 : Int32) (M10 : mM) => if v11 = 0 then (P11_in d Th xv2 31 34 M10 (fun (v13 : Int32) (M12 : mM) => if v13 = 0 then (H11_takenX_102 (d + 1) Th Q xv1 (-1) M12) else (H11_takenX_102 (d + 1) Th Q xv1 ((xv2 - 14)) M12))) else (H11_takenX_102 (d + 1) Th Q xv1 ((xv2 - 8)) M10))) else (H11_takenX_102 (d + 1) Th Q xv1 ((xv2 - 4)) M8)))) else (H11_takenX_102 (d + 1) Th Q xv1 xv2 M6))))))) : P11_takenX (d + 1) Th a0 x1 M Q := by
  refine m_C.of (by decide +kernel) (Nat.le_of_ble_eq_true rfl) ?_
  show m_W (d + 1) 0 0 yX11_takenX cX11_takenX 5 (some .int) (m_qi Th Q) 0 [(0, .ref a0), (1, .int x1)] [] Th M 0 0
  refine m_iload_n dX11_takenX_0 rfl 1 rfl ?_
  refine m_bipush (v := 100) dX11_takenX_1 (by decide) ?_
  refine m_idiv dX11_takenX_3 (by decide) ?_
  obtain ⟨xv1, e_xv1⟩ : ∃ xv1 : Int32, xv1 = (x1 / 100) := ⟨_, rfl⟩
  have h := h xv1 e_xv1
  rw [← e_xv1]
  refine m_istore_n (lv' := [(2, .int xv1), (0, .ref a0), (1, .int x1)]) dX11_takenX_4 rfl (by decide) rfl ?_
  refine m_iload_n dX11_takenX_5 rfl 2 rfl ?_
  refine m_bipush (v := 100) dX11_takenX_6 (by decide) ?_
  refine m_irem dX11_takenX_8 (by decide) ?_
  obtain ⟨xv2, e_xv2⟩ : ∃ xv2 : Int32, xv2 = (x1 - x1 / 100 * 100) := ⟨_, rfl⟩
  have h := h xv2 e_xv2
  rw [← e_xv2]
  refine m_istore_n (lv' := [(3, .int xv2), (2, .int xv1), (0, .ref a0), (1, .int x1)]) dX11_takenX_9 rfl (by decide) rfl ?_
  refine m_iload_n dX11_takenX_10 rfl 3 rfl ?_
  refine m_if_lt (tgt := 22) dX11_takenX_11 (by decide) (fun c1 => ?_) (fun c1 => ?_)
  · rw [if_pos c1] at h
    refine m_iconst (v := (-1)) dX11_takenX_22 (by decide) ?_
    exact m_ireturn dX11_takenX_23 rfl rfl ⟨rfl, _, rfl, h⟩
  · rw [if_neg c1] at h
    refine m_aload_n dX11_takenX_14 rfl 2 rfl ?_
    refine m_iload_n dX11_takenX_15 rfl 1 rfl ?_
    obtain ⟨q5, h⟩ := h
    refine m_invV (ci := 11) (As := [.int xv1]) (d' := d) (mc' := 0) (ms' := 0) (rest := []) i_11_isRiddle v_11_isRiddle t_11_isRiddle l_X11_166 ⟨_, _, rfl⟩ dX11_takenX_16 rfl rfl q5 (Nat.le_of_ble_eq_true rfl) (Nat.le_refl _) ⟨Nat.le_refl _, Nat.le_refl _⟩ (m_Ci h (fun v4 M3 h => ?_))
    show m_W (d + 1) 0 0 yX11_takenX cX11_takenX 5 (some .int) (m_qi Th Q) 19 [(3, .int xv2), (2, .int xv1), (0, .ref a0), (1, .int x1)] [.int v4] Th M3 0 0
    refine m_if_ne (tgt := 24) dX11_takenX_19 (by decide) (fun c1 => ?_) (fun c1 => ?_)
    · rw [if_neg c1] at h
      refine m_iload_n dX11_takenX_24 rfl 0 rfl ?_
      refine m_iconst (v := 0) dX11_takenX_25 (by decide) ?_
      refine m_iconst (v := 5) dX11_takenX_26 (by decide) ?_
      refine m_invS (As := [.int xv2, .int 0, .int 5]) (d' := d) (mc' := 0) (ms' := 0) (rest := []) i_11_in s_11_in l_X11_148 dX11_takenX_27 rfl rfl (Nat.le_of_ble_eq_true rfl) (Nat.le_refl _) ⟨Nat.le_refl _, Nat.le_refl _⟩ (m_Ci h (fun v7 M6 h => ?_))
      show m_W (d + 1) 0 0 yX11_takenX cX11_takenX 5 (some .int) (m_qi Th Q) 30 [(3, .int xv2), (2, .int xv1), (0, .ref a0), (1, .int x1)] [.int v7] Th M6 0 0
      refine m_if_eq (tgt := 37) dX11_takenX_30 (by decide) (fun c1 => ?_) (fun c1 => ?_)
      · rw [if_pos c1] at h
        refine m_iload_n dX11_takenX_37 rfl 0 rfl ?_
        refine m_bipush (v := 10) dX11_takenX_38 (by decide) ?_
        refine m_icmp_ne (tgt := 48) dX11_takenX_40 (by decide) (fun c1 => ?_) (fun c1 => ?_)
        · rw [if_neg c1] at h
          refine m_iload_n dX11_takenX_48 rfl 0 rfl ?_
          refine m_bipush (v := 11) dX11_takenX_49 (by decide) ?_
          refine m_bipush (v := 16) dX11_takenX_51 (by decide) ?_
          refine m_invS (As := [.int xv2, .int 11, .int 16]) (d' := d) (mc' := 0) (ms' := 0) (rest := []) i_11_in s_11_in l_X11_148 dX11_takenX_53 rfl rfl (Nat.le_of_ble_eq_true rfl) (Nat.le_refl _) ⟨Nat.le_refl _, Nat.le_refl _⟩ (m_Ci h (fun v9 M8 h => ?_))
          show m_W (d + 1) 0 0 yX11_takenX cX11_takenX 5 (some .int) (m_qi Th Q) 56 [(3, .int xv2), (2, .int xv1), (0, .ref a0), (1, .int x1)] [.int v9] Th M8 0 0
          refine m_if_eq (tgt := 65) dX11_takenX_56 (by decide) (fun c1 => ?_) (fun c1 => ?_)
          · rw [if_pos c1] at h
            refine m_iload_n dX11_takenX_65 rfl 0 rfl ?_
            refine m_bipush (v := 21) dX11_takenX_66 (by decide) ?_
            refine m_bipush (v := 24) dX11_takenX_68 (by decide) ?_
            refine m_invS (As := [.int xv2, .int 21, .int 24]) (d' := d) (mc' := 0) (ms' := 0) (rest := []) i_11_in s_11_in l_X11_148 dX11_takenX_70 rfl rfl (Nat.le_of_ble_eq_true rfl) (Nat.le_refl _) ⟨Nat.le_refl _, Nat.le_refl _⟩ (m_Ci h (fun v11 M10 h => ?_))
            show m_W (d + 1) 0 0 yX11_takenX cX11_takenX 5 (some .int) (m_qi Th Q) 73 [(3, .int xv2), (2, .int xv1), (0, .ref a0), (1, .int x1)] [.int v11] Th M10 0 0
            refine m_if_eq (tgt := 83) dX11_takenX_73 (by decide) (fun c1 => ?_) (fun c1 => ?_)
            · rw [if_pos c1] at h
              refine m_iload_n dX11_takenX_83 rfl 0 rfl ?_
              refine m_bipush (v := 31) dX11_takenX_84 (by decide) ?_
              refine m_bipush (v := 34) dX11_takenX_86 (by decide) ?_
              refine m_invS (As := [.int xv2, .int 31, .int 34]) (d' := d) (mc' := 0) (ms' := 0) (rest := []) i_11_in s_11_in l_X11_148 dX11_takenX_88 rfl rfl (Nat.le_of_ble_eq_true rfl) (Nat.le_refl _) ⟨Nat.le_refl _, Nat.le_refl _⟩ (m_Ci h (fun v13 M12 h => ?_))
              show m_W (d + 1) 0 0 yX11_takenX cX11_takenX 5 (some .int) (m_qi Th Q) 91 [(3, .int xv2), (2, .int xv1), (0, .ref a0), (1, .int x1)] [.int v13] Th M12 0 0
              refine m_if_eq (tgt := 101) dX11_takenX_91 (by decide) (fun c1 => ?_) (fun c1 => ?_)
              · rw [if_pos c1] at h
                refine m_iconst (v := (-1)) dX11_takenX_101 (by decide) ?_
                exact m_sub [1] rfl h
              · rw [if_neg c1] at h
                refine m_iload_n dX11_takenX_94 rfl 0 rfl ?_
                refine m_bipush (v := 14) dX11_takenX_95 (by decide) ?_
                refine m_isub dX11_takenX_97 ?_
                refine m_goto (tgt := 102) dX11_takenX_98 (by decide) ?_
                exact m_sub [1] rfl h
            · rw [if_neg c1] at h
              refine m_iload_n dX11_takenX_76 rfl 0 rfl ?_
              refine m_bipush (v := 8) dX11_takenX_77 (by decide) ?_
              refine m_isub dX11_takenX_79 ?_
              refine m_goto (tgt := 102) dX11_takenX_80 (by decide) ?_
              exact m_sub [1] rfl h
          · rw [if_neg c1] at h
            refine m_iload_n dX11_takenX_59 rfl 0 rfl ?_
            refine m_iconst (v := 4) dX11_takenX_60 (by decide) ?_
            refine m_isub dX11_takenX_61 ?_
            refine m_goto (tgt := 102) dX11_takenX_62 (by decide) ?_
            exact m_sub [1] rfl h
        · rw [if_pos c1] at h
          refine m_bipush (v := 6) dX11_takenX_43 (by decide) ?_
          refine m_goto (tgt := 102) dX11_takenX_45 (by decide) ?_
          exact m_sub [1] rfl h
      · rw [if_neg c1] at h
        refine m_iload_n dX11_takenX_33 rfl 0 rfl ?_
        refine m_goto (tgt := 102) dX11_takenX_34 (by decide) ?_
        exact m_sub [1] rfl h
    · rw [if_pos c1] at h
      refine m_iconst (v := (-1)) dX11_takenX_22 (by decide) ?_
      exact m_ireturn dX11_takenX_23 rfl rfl ⟨rfl, _, rfl, h⟩
set_option maxHeartbeats 4000000 in
set_option maxRecDepth 100000 in
theorem h11_takenY_73 {d : Nat} {Th : mT} {Q : Int32 → mM → Prop} {x2 : Int32} {s0 : Int32} {M : mM} (h : Q ((if s0 = (-1) then (-1) else ((16 * x2) + s0))) M) : H11_takenY_73 (d + 1) Th Q x2 s0 M := by
  show m_W (d + 1) 0 0 yX11_takenY cX11_takenY 5 (some .int) (m_qi Th Q) 73 [(2, .int x2)] [.int s0] Th M 0 0
  refine m_istore (lv' := [(4, .int s0), (2, .int x2)]) dX11_takenY_73 (by decide) rfl ?_
  refine m_iload dX11_takenY_75 0 rfl ?_
  refine m_iconst (v := (-1)) dX11_takenY_77 (by decide) ?_
  have hJ : m_W (d + 1) 0 0 yX11_takenY cX11_takenY 5 (some .int) (m_qi Th Q) 92 [(4, .int s0), (2, .int x2)] [.int ((if s0 = (-1) then (-1) else ((16 * x2) + s0)))] Th M 0 0 := by
    exact m_ireturn dX11_takenY_92 rfl rfl ⟨rfl, _, rfl, h⟩
  refine m_icmp_ne (tgt := 85) dX11_takenY_78 (by decide) (fun c1 => ?_) (fun c1 => ?_)
  · simp only [if_neg c1] at hJ
    refine m_bipush (v := 16) dX11_takenY_85 (by decide) ?_
    refine m_iload_n dX11_takenY_87 rfl 1 rfl ?_
    refine m_imul dX11_takenY_88 ?_
    refine m_iload dX11_takenY_89 0 rfl ?_
    refine m_iadd dX11_takenY_91 ?_
    exact hJ
  · simp only [if_pos c1] at hJ
    refine m_iconst (v := (-1)) dX11_takenY_81 (by decide) ?_
    refine m_goto (tgt := 92) dX11_takenY_82 (by decide) ?_
    exact hJ
set_option maxHeartbeats 4000000 in
set_option maxRecDepth 100000 in
theorem e11_takenY {d : Nat} {Th : mT} {Q : Int32 → mM → Prop} {a0 : Nat} {x1 : Int32} {M : mM} (h : ∀ xv1 : Int32, xv1 = (x1 / 100) → ∀ xv2 : Int32, xv2 = (x1 - x1 / 100 * 100) → if x1 < 0 then (Q (-1) M) else (Th.2.2 a0 = some (.inl 11) ∧ (P11_isRiddle d Th a0 xv1 M (fun (v4 : Int32) (M3 : mM) => if v4 = 0 then (Q (-1) M3) else (P11_in d Th xv2 0 5 M3 (fun (v7 : Int32) (M6 : mM) => if v7 = 0 then (P11_in d Th xv2 11 16 M6 (fun (v9 : Int32) (M8 : mM) => if v9 = 0 then (P11_in d Th xv2 21 24 M8 (fun (v11 : Int32) (M10 : mM) => if v11 = 0 then (H11_takenY_73 (d + 1) Th Q xv1 (-1) M10) else (H11_takenY_73 (d + 1) Th Q xv1 ((xv2 - 9)) M10))) else (H11_takenY_73 (d + 1) Th Q xv1 ((xv2 - 5)) M8))) else (H11_takenY_73 (d + 1) Th Q xv1 xv2 M6))))))) : P11_takenY (d + 1) Th a0 x1 M Q := by
  refine m_C.of (by decide +kernel) (Nat.le_of_ble_eq_true rfl) ?_
  show m_W (d + 1) 0 0 yX11_takenY cX11_takenY 5 (some .int) (m_qi Th Q) 0 [(0, .ref a0), (1, .int x1)] [] Th M 0 0
  refine m_iload_n dX11_takenY_0 rfl 1 rfl ?_
  refine m_bipush (v := 100) dX11_takenY_1 (by decide) ?_
  refine m_idiv dX11_takenY_3 (by decide) ?_
  obtain ⟨xv1, e_xv1⟩ : ∃ xv1 : Int32, xv1 = (x1 / 100) := ⟨_, rfl⟩
  have h := h xv1 e_xv1
  rw [← e_xv1]
  refine m_istore_n (lv' := [(2, .int xv1), (0, .ref a0), (1, .int x1)]) dX11_takenY_4 rfl (by decide) rfl ?_
  refine m_iload_n dX11_takenY_5 rfl 2 rfl ?_
  refine m_bipush (v := 100) dX11_takenY_6 (by decide) ?_
  refine m_irem dX11_takenY_8 (by decide) ?_
  obtain ⟨xv2, e_xv2⟩ : ∃ xv2 : Int32, xv2 = (x1 - x1 / 100 * 100) := ⟨_, rfl⟩
  have h := h xv2 e_xv2
  rw [← e_xv2]
  refine m_istore_n (lv' := [(3, .int xv2), (2, .int xv1), (0, .ref a0), (1, .int x1)]) dX11_takenY_9 rfl (by decide) rfl ?_
  refine m_iload_n dX11_takenY_10 rfl 3 rfl ?_
  refine m_if_lt (tgt := 22) dX11_takenY_11 (by decide) (fun c1 => ?_) (fun c1 => ?_)
  · rw [if_pos c1] at h
    refine m_iconst (v := (-1)) dX11_takenY_22 (by decide) ?_
    exact m_ireturn dX11_takenY_23 rfl rfl ⟨rfl, _, rfl, h⟩
  · rw [if_neg c1] at h
    refine m_aload_n dX11_takenY_14 rfl 2 rfl ?_
    refine m_iload_n dX11_takenY_15 rfl 1 rfl ?_
    obtain ⟨q5, h⟩ := h
    refine m_invV (ci := 11) (As := [.int xv1]) (d' := d) (mc' := 0) (ms' := 0) (rest := []) i_11_isRiddle v_11_isRiddle t_11_isRiddle l_X11_166 ⟨_, _, rfl⟩ dX11_takenY_16 rfl rfl q5 (Nat.le_of_ble_eq_true rfl) (Nat.le_refl _) ⟨Nat.le_refl _, Nat.le_refl _⟩ (m_Ci h (fun v4 M3 h => ?_))
    show m_W (d + 1) 0 0 yX11_takenY cX11_takenY 5 (some .int) (m_qi Th Q) 19 [(3, .int xv2), (2, .int xv1), (0, .ref a0), (1, .int x1)] [.int v4] Th M3 0 0
    refine m_if_ne (tgt := 24) dX11_takenY_19 (by decide) (fun c1 => ?_) (fun c1 => ?_)
    · rw [if_neg c1] at h
      refine m_iload_n dX11_takenY_24 rfl 0 rfl ?_
      refine m_iconst (v := 0) dX11_takenY_25 (by decide) ?_
      refine m_iconst (v := 5) dX11_takenY_26 (by decide) ?_
      refine m_invS (As := [.int xv2, .int 0, .int 5]) (d' := d) (mc' := 0) (ms' := 0) (rest := []) i_11_in s_11_in l_X11_148 dX11_takenY_27 rfl rfl (Nat.le_of_ble_eq_true rfl) (Nat.le_refl _) ⟨Nat.le_refl _, Nat.le_refl _⟩ (m_Ci h (fun v7 M6 h => ?_))
      show m_W (d + 1) 0 0 yX11_takenY cX11_takenY 5 (some .int) (m_qi Th Q) 30 [(3, .int xv2), (2, .int xv1), (0, .ref a0), (1, .int x1)] [.int v7] Th M6 0 0
      refine m_if_eq (tgt := 37) dX11_takenY_30 (by decide) (fun c1 => ?_) (fun c1 => ?_)
      · rw [if_pos c1] at h
        refine m_iload_n dX11_takenY_37 rfl 0 rfl ?_
        refine m_bipush (v := 11) dX11_takenY_38 (by decide) ?_
        refine m_bipush (v := 16) dX11_takenY_40 (by decide) ?_
        refine m_invS (As := [.int xv2, .int 11, .int 16]) (d' := d) (mc' := 0) (ms' := 0) (rest := []) i_11_in s_11_in l_X11_148 dX11_takenY_42 rfl rfl (Nat.le_of_ble_eq_true rfl) (Nat.le_refl _) ⟨Nat.le_refl _, Nat.le_refl _⟩ (m_Ci h (fun v9 M8 h => ?_))
        show m_W (d + 1) 0 0 yX11_takenY cX11_takenY 5 (some .int) (m_qi Th Q) 45 [(3, .int xv2), (2, .int xv1), (0, .ref a0), (1, .int x1)] [.int v9] Th M8 0 0
        refine m_if_eq (tgt := 54) dX11_takenY_45 (by decide) (fun c1 => ?_) (fun c1 => ?_)
        · rw [if_pos c1] at h
          refine m_iload_n dX11_takenY_54 rfl 0 rfl ?_
          refine m_bipush (v := 21) dX11_takenY_55 (by decide) ?_
          refine m_bipush (v := 24) dX11_takenY_57 (by decide) ?_
          refine m_invS (As := [.int xv2, .int 21, .int 24]) (d' := d) (mc' := 0) (ms' := 0) (rest := []) i_11_in s_11_in l_X11_148 dX11_takenY_59 rfl rfl (Nat.le_of_ble_eq_true rfl) (Nat.le_refl _) ⟨Nat.le_refl _, Nat.le_refl _⟩ (m_Ci h (fun v11 M10 h => ?_))
          show m_W (d + 1) 0 0 yX11_takenY cX11_takenY 5 (some .int) (m_qi Th Q) 62 [(3, .int xv2), (2, .int xv1), (0, .ref a0), (1, .int x1)] [.int v11] Th M10 0 0
          refine m_if_eq (tgt := 72) dX11_takenY_62 (by decide) (fun c1 => ?_) (fun c1 => ?_)
          · rw [if_pos c1] at h
            refine m_iconst (v := (-1)) dX11_takenY_72 (by decide) ?_
            exact m_sub [1] rfl h
          · rw [if_neg c1] at h
            refine m_iload_n dX11_takenY_65 rfl 0 rfl ?_
            refine m_bipush (v := 9) dX11_takenY_66 (by decide) ?_
            refine m_isub dX11_takenY_68 ?_
            refine m_goto (tgt := 73) dX11_takenY_69 (by decide) ?_
            exact m_sub [1] rfl h
        · rw [if_neg c1] at h
          refine m_iload_n dX11_takenY_48 rfl 0 rfl ?_
          refine m_iconst (v := 5) dX11_takenY_49 (by decide) ?_
          refine m_isub dX11_takenY_50 ?_
          refine m_goto (tgt := 73) dX11_takenY_51 (by decide) ?_
          exact m_sub [1] rfl h
      · rw [if_neg c1] at h
        refine m_iload_n dX11_takenY_33 rfl 0 rfl ?_
        refine m_goto (tgt := 73) dX11_takenY_34 (by decide) ?_
        exact m_sub [1] rfl h
    · rw [if_pos c1] at h
      refine m_iconst (v := (-1)) dX11_takenY_22 (by decide) ?_
      exact m_ireturn dX11_takenY_23 rfl rfl ⟨rfl, _, rfl, h⟩
set_option maxHeartbeats 4000000 in
set_option maxRecDepth 100000 in
theorem e11_xPuts {d : Nat} {Th : mT} {Q : mM → Prop} {a0 : Nat} {x1 : Int32} {x2 : Int32} {M : mM} (h : if x2 = 0 then (Q M) else (Th.2.2 a0 = some (.inl 11) ∧ (∃ r2 : Nat, M.2.2 a0 49 = some r2 ∧ (m_okw Th r2 .int (((M).1 a0 53)) ∧ (∃ r5 : Nat, M.2.2 a0 50 = some r5 ∧ (∀ M7 : mM, M7 = m_ui M r2 (Int32.toNatClampNeg (((M).1 a0 53))) x1 → m_okw Th r5 .int (((M7).1 a0 53)) ∧ (∀ M9 : mM, M9 = m_ui M7 r5 (Int32.toNatClampNeg (((M7).1 a0 53))) x2 → Q (m_ui M9 a0 53 ((((M9).1 a0 53) + 1)))))))))) : P11_xPuts (d + 1) Th a0 x1 x2 M Q := by
  refine m_C.of (by decide +kernel) (Nat.le_of_ble_eq_true rfl) ?_
  show m_W (d + 1) 0 0 yX11_xPuts cX11_xPuts 3 none (m_qv Th Q) 0 [(0, .ref a0), (1, .int x1), (2, .int x2)] [] Th M 0 0
  refine m_iload_n dX11_xPuts_0 rfl 2 rfl ?_
  refine m_if_ne (tgt := 5) dX11_xPuts_1 (by decide) (fun c1 => ?_) (fun c1 => ?_)
  · rw [if_neg c1] at h
    refine m_aload_n dX11_xPuts_5 rfl 0 rfl ?_
    obtain ⟨q1, h⟩ := h
    obtain ⟨r2, q3, h⟩ := h
    refine m_getr f_X11_95 rfl dX11_xPuts_6 q1 q3 ?_
    refine m_aload_n dX11_xPuts_9 rfl 0 rfl ?_
    refine m_geti f_X11_355 rfl dX11_xPuts_10 q1 ?_
    refine m_iload_n dX11_xPuts_13 rfl 1 rfl ?_
    obtain ⟨q4, h⟩ := h
    refine m_iast dX11_xPuts_14 q4 ?_
    refine m_aload_n dX11_xPuts_15 rfl 0 rfl ?_
    obtain ⟨r5, q6, h⟩ := h
    refine m_getr f_X11_98 rfl dX11_xPuts_16 q1 q6 ?_
    refine m_aload_n dX11_xPuts_19 rfl 0 rfl ?_
    obtain ⟨M7, e_M7⟩ : ∃ M7 : mM, M7 = m_ui M r2 (Int32.toNatClampNeg (((M).1 a0 53))) x1 := ⟨_, rfl⟩
    have h := h M7 e_M7
    rw [← e_M7]
    refine m_geti f_X11_355 rfl dX11_xPuts_20 q1 ?_
    refine m_iload_n dX11_xPuts_23 rfl 2 rfl ?_
    obtain ⟨q8, h⟩ := h
    refine m_iast dX11_xPuts_24 q8 ?_
    refine m_aload_n dX11_xPuts_25 rfl 0 rfl ?_
    refine m_aload_n dX11_xPuts_26 rfl 0 rfl ?_
    obtain ⟨M9, e_M9⟩ : ∃ M9 : mM, M9 = m_ui M7 r5 (Int32.toNatClampNeg (((M7).1 a0 53))) x2 := ⟨_, rfl⟩
    have h := h M9 e_M9
    rw [← e_M9]
    refine m_geti f_X11_355 rfl dX11_xPuts_27 q1 ?_
    refine m_iconst (v := 1) dX11_xPuts_30 (by decide) ?_
    refine m_iadd dX11_xPuts_31 ?_
    refine m_puti f_X11_355 rfl (Or.inl rfl) dX11_xPuts_32 q1 ⟨rfl, rfl⟩ ?_
    exact m_return dX11_xPuts_35 rfl ⟨rfl, rfl, h⟩
  · rw [if_pos c1] at h
    exact m_return dX11_xPuts_4 rfl ⟨rfl, rfl, h⟩
set_option maxHeartbeats 4000000 in
set_option maxRecDepth 100000 in
theorem e11_yPuts {d : Nat} {Th : mT} {Q : mM → Prop} {a0 : Nat} {x1 : Int32} {x2 : Int32} {M : mM} (h : if x2 = 0 then (Q M) else (Th.2.2 a0 = some (.inl 11) ∧ (∃ r2 : Nat, M.2.2 a0 51 = some r2 ∧ (m_okw Th r2 .int (((M).1 a0 54)) ∧ (∃ r5 : Nat, M.2.2 a0 52 = some r5 ∧ (∀ M7 : mM, M7 = m_ui M r2 (Int32.toNatClampNeg (((M).1 a0 54))) x1 → m_okw Th r5 .int (((M7).1 a0 54)) ∧ (∀ M9 : mM, M9 = m_ui M7 r5 (Int32.toNatClampNeg (((M7).1 a0 54))) x2 → Q (m_ui M9 a0 54 ((((M9).1 a0 54) + 1)))))))))) : P11_yPuts (d + 1) Th a0 x1 x2 M Q := by
  refine m_C.of (by decide +kernel) (Nat.le_of_ble_eq_true rfl) ?_
  show m_W (d + 1) 0 0 yX11_yPuts cX11_yPuts 3 none (m_qv Th Q) 0 [(0, .ref a0), (1, .int x1), (2, .int x2)] [] Th M 0 0
  refine m_iload_n dX11_yPuts_0 rfl 2 rfl ?_
  refine m_if_ne (tgt := 5) dX11_yPuts_1 (by decide) (fun c1 => ?_) (fun c1 => ?_)
  · rw [if_neg c1] at h
    refine m_aload_n dX11_yPuts_5 rfl 0 rfl ?_
    obtain ⟨q1, h⟩ := h
    obtain ⟨r2, q3, h⟩ := h
    refine m_getr f_X11_101 rfl dX11_yPuts_6 q1 q3 ?_
    refine m_aload_n dX11_yPuts_9 rfl 0 rfl ?_
    refine m_geti f_X11_358 rfl dX11_yPuts_10 q1 ?_
    refine m_iload_n dX11_yPuts_13 rfl 1 rfl ?_
    obtain ⟨q4, h⟩ := h
    refine m_iast dX11_yPuts_14 q4 ?_
    refine m_aload_n dX11_yPuts_15 rfl 0 rfl ?_
    obtain ⟨r5, q6, h⟩ := h
    refine m_getr f_X11_104 rfl dX11_yPuts_16 q1 q6 ?_
    refine m_aload_n dX11_yPuts_19 rfl 0 rfl ?_
    obtain ⟨M7, e_M7⟩ : ∃ M7 : mM, M7 = m_ui M r2 (Int32.toNatClampNeg (((M).1 a0 54))) x1 := ⟨_, rfl⟩
    have h := h M7 e_M7
    rw [← e_M7]
    refine m_geti f_X11_358 rfl dX11_yPuts_20 q1 ?_
    refine m_iload_n dX11_yPuts_23 rfl 2 rfl ?_
    obtain ⟨q8, h⟩ := h
    refine m_iast dX11_yPuts_24 q8 ?_
    refine m_aload_n dX11_yPuts_25 rfl 0 rfl ?_
    refine m_aload_n dX11_yPuts_26 rfl 0 rfl ?_
    obtain ⟨M9, e_M9⟩ : ∃ M9 : mM, M9 = m_ui M7 r5 (Int32.toNatClampNeg (((M7).1 a0 54))) x2 := ⟨_, rfl⟩
    have h := h M9 e_M9
    rw [← e_M9]
    refine m_geti f_X11_358 rfl dX11_yPuts_27 q1 ?_
    refine m_iconst (v := 1) dX11_yPuts_30 (by decide) ?_
    refine m_iadd dX11_yPuts_31 ?_
    refine m_puti f_X11_358 rfl (Or.inl rfl) dX11_yPuts_32 q1 ⟨rfl, rfl⟩ ?_
    exact m_return dX11_yPuts_35 rfl ⟨rfl, rfl, h⟩
  · rw [if_pos c1] at h
    exact m_return dX11_yPuts_4 rfl ⟨rfl, rfl, h⟩
set_option maxHeartbeats 4000000 in
set_option maxRecDepth 100000 in
theorem e11_xWalks {d : Nat} {Th : mT} {Q : Int32 → mM → Prop} {a0 : Nat} {x1 : Int32} {x2 : Int32} {M : mM} (h : if x2 ≤ 0 then (Th.2.2 a0 = some (.inl 11) ∧ (Q ((if (x1 + 1) = ((M).1 a0 0) then 105 else (21 * (x1 + 1)))) M)) else (Q ((((21 * x1) + 6) + x2)) M)) : P11_xWalks (d + 1) Th a0 x1 x2 M Q := by
  refine m_C.of (by decide +kernel) (Nat.le_of_ble_eq_true rfl) ?_
  show m_W (d + 1) 0 0 yX11_xWalks cX11_xWalks 3 (some .int) (m_qi Th Q) 0 [(0, .ref a0), (1, .int x1), (2, .int x2)] [] Th M 0 0
  refine m_iload_n dX11_xWalks_0 rfl 2 rfl ?_
  refine m_if_le (tgt := 16) dX11_xWalks_1 (by decide) (fun c1 => ?_) (fun c1 => ?_)
  · rw [if_pos c1] at h
    refine m_iload_n dX11_xWalks_16 rfl 1 rfl ?_
    refine m_iconst (v := 1) dX11_xWalks_17 (by decide) ?_
    refine m_iadd dX11_xWalks_18 ?_
    refine m_aload_n dX11_xWalks_19 rfl 0 rfl ?_
    obtain ⟨q1, h⟩ := h
    refine m_geti f_X11_141 rfl dX11_xWalks_20 q1 ?_
    have hJ : m_W (d + 1) 0 0 yX11_xWalks cX11_xWalks 3 (some .int) (m_qi Th Q) 37 [(0, .ref a0), (1, .int x1), (2, .int x2)] [.int ((if (x1 + 1) = ((M).1 a0 0) then 105 else (21 * (x1 + 1))))] Th M 0 0 := by
      exact m_ireturn dX11_xWalks_37 rfl rfl ⟨rfl, _, rfl, h⟩
    refine m_icmp_ne (tgt := 31) dX11_xWalks_23 (by decide) (fun c1 => ?_) (fun c1 => ?_)
    · simp only [if_neg c1] at hJ
      refine m_bipush (v := 21) dX11_xWalks_31 (by decide) ?_
      refine m_iload_n dX11_xWalks_33 rfl 1 rfl ?_
      refine m_iconst (v := 1) dX11_xWalks_34 (by decide) ?_
      refine m_iadd dX11_xWalks_35 ?_
      refine m_imul dX11_xWalks_36 ?_
      exact hJ
    · simp only [if_pos c1] at hJ
      refine m_bipush (v := 105) dX11_xWalks_26 (by decide) ?_
      refine m_goto (tgt := 37) dX11_xWalks_28 (by decide) ?_
      exact hJ
  · rw [if_neg c1] at h
    refine m_bipush (v := 21) dX11_xWalks_4 (by decide) ?_
    refine m_iload_n dX11_xWalks_6 rfl 1 rfl ?_
    refine m_imul dX11_xWalks_7 ?_
    refine m_bipush (v := 6) dX11_xWalks_8 (by decide) ?_
    refine m_iadd dX11_xWalks_10 ?_
    refine m_iload_n dX11_xWalks_11 rfl 2 rfl ?_
    refine m_iadd dX11_xWalks_12 ?_
    refine m_goto (tgt := 37) dX11_xWalks_13 (by decide) ?_
    exact m_ireturn dX11_xWalks_37 rfl rfl ⟨rfl, _, rfl, h⟩
set_option maxHeartbeats 4000000 in
set_option maxRecDepth 100000 in
theorem e11_yWalks {d : Nat} {Th : mT} {Q : Int32 → mM → Prop} {a0 : Nat} {x1 : Int32} {x2 : Int32} {M : mM} (h : if x2 ≤ 0 then (Th.2.2 a0 = some (.inl 11) ∧ (Q ((if (x1 + 1) = ((M).1 a0 0) then 80 else (16 * (x1 + 1)))) M)) else (Q ((((16 * x1) + 5) + x2)) M)) : P11_yWalks (d + 1) Th a0 x1 x2 M Q := by
  refine m_C.of (by decide +kernel) (Nat.le_of_ble_eq_true rfl) ?_
  show m_W (d + 1) 0 0 yX11_yWalks cX11_yWalks 3 (some .int) (m_qi Th Q) 0 [(0, .ref a0), (1, .int x1), (2, .int x2)] [] Th M 0 0
  refine m_iload_n dX11_yWalks_0 rfl 2 rfl ?_
  refine m_if_le (tgt := 15) dX11_yWalks_1 (by decide) (fun c1 => ?_) (fun c1 => ?_)
  · rw [if_pos c1] at h
    refine m_iload_n dX11_yWalks_15 rfl 1 rfl ?_
    refine m_iconst (v := 1) dX11_yWalks_16 (by decide) ?_
    refine m_iadd dX11_yWalks_17 ?_
    refine m_aload_n dX11_yWalks_18 rfl 0 rfl ?_
    obtain ⟨q1, h⟩ := h
    refine m_geti f_X11_141 rfl dX11_yWalks_19 q1 ?_
    have hJ : m_W (d + 1) 0 0 yX11_yWalks cX11_yWalks 3 (some .int) (m_qi Th Q) 36 [(0, .ref a0), (1, .int x1), (2, .int x2)] [.int ((if (x1 + 1) = ((M).1 a0 0) then 80 else (16 * (x1 + 1))))] Th M 0 0 := by
      exact m_ireturn dX11_yWalks_36 rfl rfl ⟨rfl, _, rfl, h⟩
    refine m_icmp_ne (tgt := 30) dX11_yWalks_22 (by decide) (fun c1 => ?_) (fun c1 => ?_)
    · simp only [if_neg c1] at hJ
      refine m_bipush (v := 16) dX11_yWalks_30 (by decide) ?_
      refine m_iload_n dX11_yWalks_32 rfl 1 rfl ?_
      refine m_iconst (v := 1) dX11_yWalks_33 (by decide) ?_
      refine m_iadd dX11_yWalks_34 ?_
      refine m_imul dX11_yWalks_35 ?_
      exact hJ
    · simp only [if_pos c1] at hJ
      refine m_bipush (v := 80) dX11_yWalks_25 (by decide) ?_
      refine m_goto (tgt := 36) dX11_yWalks_27 (by decide) ?_
      exact hJ
  · rw [if_neg c1] at h
    refine m_bipush (v := 16) dX11_yWalks_4 (by decide) ?_
    refine m_iload_n dX11_yWalks_6 rfl 1 rfl ?_
    refine m_imul dX11_yWalks_7 ?_
    refine m_iconst (v := 5) dX11_yWalks_8 (by decide) ?_
    refine m_iadd dX11_yWalks_9 ?_
    refine m_iload_n dX11_yWalks_10 rfl 2 rfl ?_
    refine m_iadd dX11_yWalks_11 ?_
    refine m_goto (tgt := 36) dX11_yWalks_12 (by decide) ?_
    exact m_ireturn dX11_yWalks_36 rfl rfl ⟨rfl, _, rfl, h⟩
set_option maxHeartbeats 4000000 in
set_option maxRecDepth 100000 in
theorem e11_xAstray {d : Nat} {Th : mT} {Q : Int32 → mM → Prop} {a0 : Nat} {x1 : Int32} {x2 : Int32} {x3 : Int32} {M : mM} (h : Q ((if x2 = 0 then (if x3 = 0 then ((21 * x1) + 0) else ((21 * x1) + 6)) else (if x3 = 0 then (((21 * x1) + 12) + x2) else (((21 * x1) + 16) + x2)))) M) : P11_xAstray (d + 1) Th a0 x1 x2 x3 M Q := by
  refine m_C.of (by decide +kernel) (Nat.le_of_ble_eq_true rfl) ?_
  show m_W (d + 1) 0 0 yX11_xAstray cX11_xAstray 4 (some .int) (m_qi Th Q) 0 [(0, .ref a0), (1, .int x1), (2, .int x2), (3, .int x3)] [] Th M 0 0
  refine m_iload_n dX11_xAstray_0 rfl 2 rfl ?_
  have hJ : m_W (d + 1) 0 0 yX11_xAstray cX11_xAstray 4 (some .int) (m_qi Th Q) 40 [(0, .ref a0), (1, .int x1), (2, .int x2), (3, .int x3)] [.int ((if x2 = 0 then (if x3 = 0 then ((21 * x1) + 0) else ((21 * x1) + 6)) else (if x3 = 0 then (((21 * x1) + 12) + x2) else (((21 * x1) + 16) + x2))))] Th M 0 0 := by
    exact m_ireturn dX11_xAstray_40 rfl rfl ⟨rfl, _, rfl, h⟩
  refine m_if_ne (tgt := 22) dX11_xAstray_1 (by decide) (fun c1 => ?_) (fun c1 => ?_)
  · simp only [if_neg c1] at hJ
    refine m_bipush (v := 21) dX11_xAstray_22 (by decide) ?_
    refine m_iload_n dX11_xAstray_24 rfl 1 rfl ?_
    refine m_imul dX11_xAstray_25 ?_
    refine m_iload_n dX11_xAstray_26 rfl 3 rfl ?_
    refine m_if_eq (tgt := 35) dX11_xAstray_27 (by decide) (fun c2 => ?_) (fun c2 => ?_)
    · simp only [if_pos c2] at hJ
      refine m_bipush (v := 12) dX11_xAstray_35 (by decide) ?_
      refine m_iadd dX11_xAstray_37 ?_
      refine m_iload_n dX11_xAstray_38 rfl 2 rfl ?_
      refine m_iadd dX11_xAstray_39 ?_
      exact hJ
    · simp only [if_neg c2] at hJ
      refine m_bipush (v := 16) dX11_xAstray_30 (by decide) ?_
      refine m_goto (tgt := 37) dX11_xAstray_32 (by decide) ?_
      refine m_iadd dX11_xAstray_37 ?_
      refine m_iload_n dX11_xAstray_38 rfl 2 rfl ?_
      refine m_iadd dX11_xAstray_39 ?_
      exact hJ
  · simp only [if_pos c1] at hJ
    refine m_bipush (v := 21) dX11_xAstray_4 (by decide) ?_
    refine m_iload_n dX11_xAstray_6 rfl 1 rfl ?_
    refine m_imul dX11_xAstray_7 ?_
    refine m_iload_n dX11_xAstray_8 rfl 3 rfl ?_
    refine m_if_eq (tgt := 17) dX11_xAstray_9 (by decide) (fun c2 => ?_) (fun c2 => ?_)
    · simp only [if_pos c2] at hJ
      refine m_iconst (v := 0) dX11_xAstray_17 (by decide) ?_
      refine m_iadd dX11_xAstray_18 ?_
      refine m_goto (tgt := 40) dX11_xAstray_19 (by decide) ?_
      exact hJ
    · simp only [if_neg c2] at hJ
      refine m_bipush (v := 6) dX11_xAstray_12 (by decide) ?_
      refine m_goto (tgt := 18) dX11_xAstray_14 (by decide) ?_
      refine m_iadd dX11_xAstray_18 ?_
      refine m_goto (tgt := 40) dX11_xAstray_19 (by decide) ?_
      exact hJ
set_option maxHeartbeats 4000000 in
set_option maxRecDepth 100000 in
theorem e11_yAstray {d : Nat} {Th : mT} {Q : Int32 → mM → Prop} {a0 : Nat} {x1 : Int32} {x2 : Int32} {M : mM} (h : Q ((if x2 = 0 then (16 * x1) else (((16 * x1) + 11) + x2))) M) : P11_yAstray (d + 1) Th a0 x1 x2 M Q := by
  refine m_C.of (by decide +kernel) (Nat.le_of_ble_eq_true rfl) ?_
  show m_W (d + 1) 0 0 yX11_yAstray cX11_yAstray 3 (some .int) (m_qi Th Q) 0 [(0, .ref a0), (1, .int x1), (2, .int x2)] [] Th M 0 0
  refine m_iload_n dX11_yAstray_0 rfl 2 rfl ?_
  have hJ : m_W (d + 1) 0 0 yX11_yAstray cX11_yAstray 3 (some .int) (m_qi Th Q) 20 [(0, .ref a0), (1, .int x1), (2, .int x2)] [.int ((if x2 = 0 then (16 * x1) else (((16 * x1) + 11) + x2)))] Th M 0 0 := by
    exact m_ireturn dX11_yAstray_20 rfl rfl ⟨rfl, _, rfl, h⟩
  refine m_if_ne (tgt := 11) dX11_yAstray_1 (by decide) (fun c1 => ?_) (fun c1 => ?_)
  · simp only [if_neg c1] at hJ
    refine m_bipush (v := 16) dX11_yAstray_11 (by decide) ?_
    refine m_iload_n dX11_yAstray_13 rfl 1 rfl ?_
    refine m_imul dX11_yAstray_14 ?_
    refine m_bipush (v := 11) dX11_yAstray_15 (by decide) ?_
    refine m_iadd dX11_yAstray_17 ?_
    refine m_iload_n dX11_yAstray_18 rfl 2 rfl ?_
    refine m_iadd dX11_yAstray_19 ?_
    exact hJ
  · simp only [if_pos c1] at hJ
    refine m_bipush (v := 16) dX11_yAstray_4 (by decide) ?_
    refine m_iload_n dX11_yAstray_6 rfl 1 rfl ?_
    refine m_imul dX11_yAstray_7 ?_
    refine m_goto (tgt := 20) dX11_yAstray_8 (by decide) ?_
    exact hJ
set_option maxHeartbeats 4000000 in
set_option maxRecDepth 100000 in
theorem e11_isFree {d : Nat} {Th : mT} {Q : Int32 → mM → Prop} {x0 : Int32} {M : mM} (h : m_bool ((if 7 ≤ (x0 - x0 / 21 * 21) then 0 else 1)) ∧ Q ((if 7 ≤ (x0 - x0 / 21 * 21) then 0 else 1)) M) : P11_isFree (d + 1) Th x0 M Q := by
  refine m_C.of (by decide +kernel) (Nat.le_of_ble_eq_true rfl) ?_
  show m_W (d + 1) 0 0 yX11_isFree cX11_isFree 1 (some .boolean) (m_qi Th Q) 0 [(0, .int x0)] [] Th M 0 0
  refine m_iload_n dX11_isFree_0 rfl 0 rfl ?_
  refine m_bipush (v := 21) dX11_isFree_1 (by decide) ?_
  refine m_irem dX11_isFree_3 (by decide) ?_
  refine m_bipush (v := 7) dX11_isFree_4 (by decide) ?_
  have hJ : m_W (d + 1) 0 0 yX11_isFree cX11_isFree 1 (some .boolean) (m_qi Th Q) 14 [(0, .int x0)] [.int ((if 7 ≤ (x0 - x0 / 21 * 21) then 0 else 1))] Th M 0 0 := by
    exact m_ireturn dX11_isFree_14 rfl h.1 ⟨rfl, _, rfl, h.2⟩
  refine m_icmp_ge (tgt := 13) dX11_isFree_6 (by decide) (fun c1 => ?_) (fun c1 => ?_)
  · simp only [if_pos c1] at hJ
    refine m_iconst (v := 0) dX11_isFree_13 (by decide) ?_
    exact hJ
  · simp only [if_neg c1] at hJ
    refine m_iconst (v := 1) dX11_isFree_9 (by decide) ?_
    refine m_goto (tgt := 14) dX11_isFree_10 (by decide) ?_
    exact hJ
set_option maxHeartbeats 4000000 in
set_option maxRecDepth 100000 in
theorem e11_canDo {d : Nat} {Th : mT} {Q : Int32 → mM → Prop} {a0 : Nat} {x1 : Int32} {x2 : Int32} {x3 : Int32} {M : mM} (h : ∀ xv1 : Int32, xv1 = (if (x1 - x1 / 21 * 21) = 6 then 1 else 0) → if x3 = 0 then (m_bool ((if xv1 = 0 then 1 else 0)) ∧ Q ((if xv1 = 0 then 1 else 0)) M) else (if x3 = 1 then (m_bool xv1 ∧ Q xv1 M) else (if x3 = 2 then (m_bool xv1 ∧ Q xv1 M) else (if x3 = 3 then (Th.2.2 a0 = some (.inl 11) ∧ (if ((M).1 a0 3) = 0 then (if (x2 / 16) = (x1 / 21) then (P11_in d Th ((x2 - x2 / 16 * 16)) 6 11 M (fun (v4 : Int32) (M3 : mM) => m_bool ((if v4 = 0 then 0 else 1)) ∧ Q ((if v4 = 0 then 0 else 1)) M3)) else (Q 0 M)) else (Q 0 M))) else (Q 1 M))))) : P11_canDo (d + 1) Th a0 x1 x2 x3 M Q := by
  refine m_C.of (by decide +kernel) (Nat.le_of_ble_eq_true rfl) ?_
  show m_W (d + 1) 0 0 yX11_canDo cX11_canDo 5 (some .boolean) (m_qi Th Q) 0 [(0, .ref a0), (1, .int x1), (2, .int x2), (3, .int x3)] [] Th M 0 0
  refine m_iload_n dX11_canDo_0 rfl 1 rfl ?_
  refine m_bipush (v := 21) dX11_canDo_1 (by decide) ?_
  refine m_irem dX11_canDo_3 (by decide) ?_
  refine m_bipush (v := 6) dX11_canDo_4 (by decide) ?_
  have hJ : m_W (d + 1) 0 0 yX11_canDo cX11_canDo 5 (some .boolean) (m_qi Th Q) 14 [(0, .ref a0), (1, .int x1), (2, .int x2), (3, .int x3)] [.int ((if (x1 - x1 / 21 * 21) = 6 then 1 else 0))] Th M 0 0 := by
    obtain ⟨xv1, e_xv1⟩ : ∃ xv1 : Int32, xv1 = (if (x1 - x1 / 21 * 21) = 6 then 1 else 0) := ⟨_, rfl⟩
    have h := h xv1 e_xv1
    rw [← e_xv1]
    refine m_istore (lv' := [(4, .int xv1), (0, .ref a0), (1, .int x1), (2, .int x2), (3, .int x3)]) dX11_canDo_14 (by decide) rfl ?_
    refine m_iload_n dX11_canDo_16 rfl 4 rfl ?_
    by_cases c0 : x3 = 0
    · rw [if_pos c0] at h
      refine m_tableIn (off := 31) (tgt := 48) dX11_canDo_17 (by rw [c0]; decide) (by rw [c0]; decide) (by rw [c0]; decide) (by decide) ?_
      refine m_iload dX11_canDo_48 0 rfl ?_
      have hJ : m_W (d + 1) 0 0 yX11_canDo cX11_canDo 5 (some .boolean) (m_qi Th Q) 58 [(4, .int xv1), (0, .ref a0), (1, .int x1), (2, .int x2), (3, .int x3)] [.int ((if xv1 = 0 then 1 else 0))] Th M 0 0 := by
        exact m_ireturn dX11_canDo_58 rfl h.1 ⟨rfl, _, rfl, h.2⟩
      refine m_if_ne (tgt := 57) dX11_canDo_50 (by decide) (fun c1 => ?_) (fun c1 => ?_)
      · simp only [if_neg c1] at hJ
        refine m_iconst (v := 0) dX11_canDo_57 (by decide) ?_
        exact hJ
      · simp only [if_pos c1] at hJ
        refine m_iconst (v := 1) dX11_canDo_53 (by decide) ?_
        refine m_goto (tgt := 58) dX11_canDo_54 (by decide) ?_
        exact hJ
    rw [if_neg c0] at h
    by_cases c1 : x3 = 1
    · rw [if_pos c1] at h
      refine m_tableIn (off := 42) (tgt := 59) dX11_canDo_17 (by rw [c1]; decide) (by rw [c1]; decide) (by rw [c1]; decide) (by decide) ?_
      refine m_iload dX11_canDo_59 0 rfl ?_
      exact m_ireturn dX11_canDo_61 rfl h.1 ⟨rfl, _, rfl, h.2⟩
    rw [if_neg c1] at h
    by_cases c2 : x3 = 2
    · rw [if_pos c2] at h
      refine m_tableIn (off := 45) (tgt := 62) dX11_canDo_17 (by rw [c2]; decide) (by rw [c2]; decide) (by rw [c2]; decide) (by decide) ?_
      refine m_iload dX11_canDo_62 0 rfl ?_
      exact m_ireturn dX11_canDo_64 rfl h.1 ⟨rfl, _, rfl, h.2⟩
    rw [if_neg c2] at h
    by_cases c3 : x3 = 3
    · rw [if_pos c3] at h
      refine m_tableIn (off := 48) (tgt := 65) dX11_canDo_17 (by rw [c3]; decide) (by rw [c3]; decide) (by rw [c3]; decide) (by decide) ?_
      refine m_aload_n dX11_canDo_65 rfl 1 rfl ?_
      obtain ⟨q2, h⟩ := h
      refine m_geti f_X11_159 rfl dX11_canDo_66 q2 ?_
      refine m_if_ne (tgt := 101) dX11_canDo_69 (by decide) (fun c1 => ?_) (fun c1 => ?_)
      · rw [if_neg c1] at h
        refine m_iconst (v := 0) dX11_canDo_101 (by decide) ?_
        exact m_ireturn dX11_canDo_102 rfl (by decide) ⟨rfl, _, rfl, h⟩
      · rw [if_pos c1] at h
        refine m_iload_n dX11_canDo_72 rfl 3 rfl ?_
        refine m_bipush (v := 16) dX11_canDo_73 (by decide) ?_
        refine m_idiv dX11_canDo_75 (by decide) ?_
        refine m_iload_n dX11_canDo_76 rfl 2 rfl ?_
        refine m_bipush (v := 21) dX11_canDo_77 (by decide) ?_
        refine m_idiv dX11_canDo_79 (by decide) ?_
        refine m_icmp_ne (tgt := 101) dX11_canDo_80 (by decide) (fun c1 => ?_) (fun c1 => ?_)
        · rw [if_neg c1] at h
          refine m_iconst (v := 0) dX11_canDo_101 (by decide) ?_
          exact m_ireturn dX11_canDo_102 rfl (by decide) ⟨rfl, _, rfl, h⟩
        · rw [if_pos c1] at h
          refine m_iload_n dX11_canDo_83 rfl 3 rfl ?_
          refine m_bipush (v := 16) dX11_canDo_84 (by decide) ?_
          refine m_irem dX11_canDo_86 (by decide) ?_
          refine m_bipush (v := 6) dX11_canDo_87 (by decide) ?_
          refine m_bipush (v := 11) dX11_canDo_89 (by decide) ?_
          refine m_invS (As := [.int ((x2 - x2 / 16 * 16)), .int 6, .int 11]) (d' := d) (mc' := 0) (ms' := 0) (rest := []) i_11_in s_11_in l_X11_148 dX11_canDo_91 rfl rfl (Nat.le_of_ble_eq_true rfl) (Nat.le_refl _) ⟨Nat.le_refl _, Nat.le_refl _⟩ (m_Ci h (fun v4 M3 h => ?_))
          show m_W (d + 1) 0 0 yX11_canDo cX11_canDo 5 (some .boolean) (m_qi Th Q) 94 [(4, .int xv1), (0, .ref a0), (1, .int x1), (2, .int x2), (3, .int x3)] [.int v4] Th M3 0 0
          have hJ : m_W (d + 1) 0 0 yX11_canDo cX11_canDo 5 (some .boolean) (m_qi Th Q) 102 [(4, .int xv1), (0, .ref a0), (1, .int x1), (2, .int x2), (3, .int x3)] [.int ((if v4 = 0 then 0 else 1))] Th M3 0 0 := by
            exact m_ireturn dX11_canDo_102 rfl h.1 ⟨rfl, _, rfl, h.2⟩
          refine m_if_eq (tgt := 101) dX11_canDo_94 (by decide) (fun c1 => ?_) (fun c1 => ?_)
          · simp only [if_pos c1] at hJ
            refine m_iconst (v := 0) dX11_canDo_101 (by decide) ?_
            exact hJ
          · simp only [if_neg c1] at hJ
            refine m_iconst (v := 1) dX11_canDo_97 (by decide) ?_
            refine m_goto (tgt := 102) dX11_canDo_98 (by decide) ?_
            exact hJ
    rw [if_neg c3] at h
    refine m_tableOut (tgt := 103) dX11_canDo_17 (m_sw 0 3 (fun k h1 h2 => by have hk : k = 0 ∨ k = 1 ∨ k = 2 ∨ k = 3 := (by omega); rcases hk with rfl | rfl | rfl | rfl <;> first | exact c0 | exact c1 | exact c2 | exact c3)) (by decide) ?_
    refine m_iconst (v := 1) dX11_canDo_103 (by decide) ?_
    exact m_ireturn dX11_canDo_104 rfl (by decide) ⟨rfl, _, rfl, h⟩
  refine m_icmp_ne (tgt := 13) dX11_canDo_6 (by decide) (fun c1 => ?_) (fun c1 => ?_)
  · simp only [if_neg c1] at hJ
    refine m_iconst (v := 0) dX11_canDo_13 (by decide) ?_
    exact hJ
  · simp only [if_pos c1] at hJ
    refine m_iconst (v := 1) dX11_canDo_9 (by decide) ?_
    refine m_goto (tgt := 14) dX11_canDo_10 (by decide) ?_
    exact hJ
set_option maxHeartbeats 4000000 in
set_option maxRecDepth 100000 in
theorem e11_xDoes {d : Nat} {Th : mT} {Q : mM → Prop} {a0 : Nat} {x1 : Int32} {x2 : Int32} {x3 : Int32} {M : mM} (h : ∀ xv1 : Int32, xv1 = (x2 / 21) → ∀ xv2 : Int32, xv2 = (x2 - x2 / 21 * 21) → Th.2.2 a0 = some (.inl 11) ∧ (∀ M4 : mM, M4 = m_ui M a0 53 0 → if xv2 ≤ 16 then (if xv2 ≤ 12 then (if xv2 ≤ 6 then (if x3 = 0 then (∃ r5 : Nat, M.2.2 a0 8 = some r5 ∧ (m_ok Th r5 .int x1 ∧ (∀ M8 : mM, M8 = m_ui M4 a0 55 0 → P11_thinks d Th a0 x1 (((M8).1 r5 (Int32.toNatClampNeg x1))) xv1 xv2 M8 (fun M9 : mM => P11_xPuts d Th a0 (((21 * xv1) + 6)) (((M9).1 a0 35)) M9 (fun M11 : mM => P11_xAstray d Th a0 xv1 (((M11).1 a0 2)) 0 M11 (fun (v14 : Int32) (M13 : mM) => P11_xPuts d Th a0 v14 (((M13).1 a0 36)) M13 (fun M15 : mM => P11_more d Th xv2 M15 (fun (v18 : Int32) (M17 : mM) => P11_xPuts d Th a0 (((21 * xv1) + v18)) (((8 - ((M17).1 a0 35)) - ((M17).1 a0 36))) M17 (fun M19 : mM => Q M19))))))))) else (if x3 = 2 then (P11_xPuts d Th a0 x2 8 (m_ui M4 a0 55 0) (fun M21 : mM => Q M21)) else (if x3 = 4 then (∀ M23 : mM, M23 = m_ui M4 a0 55 0 → ∀ M24 : mM, M24 = m_ui M23 a0 55 2 → P11_xAstray d Th a0 xv1 ((((M24).1 a0 2) - 1)) ((if xv2 = 6 then 1 else 0)) M24 (fun (v26 : Int32) (M25 : mM) => P11_xPuts d Th a0 v26 8 M25 (fun M27 : mM => Q M27))) else (∀ M29 : mM, M29 = m_ui M4 a0 55 0 → P11_walkOf d Th a0 x1 xv1 (m_ui M29 a0 55 1) (fun (v31 : Int32) (M30 : mM) => P11_xWalks d Th a0 xv1 ((v31 - 1)) M30 (fun (v33 : Int32) (M32 : mM) => P11_xPuts d Th a0 v33 8 M32 (fun M34 : mM => Q M34))))))) else (P11_xWalks d Th a0 xv1 ((xv2 - 7)) (m_ui M4 a0 55 0) (fun (v37 : Int32) (M36 : mM) => P11_xPuts d Th a0 v37 8 M36 (fun M38 : mM => Q M38)))) else (P11_xAstray d Th a0 xv1 ((xv2 - 13)) 0 (m_ui M4 a0 55 0) (fun (v41 : Int32) (M40 : mM) => P11_xPuts d Th a0 v41 8 M40 (fun M42 : mM => Q M42)))) else (P11_xAstray d Th a0 xv1 ((xv2 - 17)) 1 (m_ui M4 a0 55 0) (fun (v45 : Int32) (M44 : mM) => P11_xPuts d Th a0 v45 8 M44 (fun M46 : mM => Q M46))))) : P11_xDoes (d + 1) Th a0 x1 x2 x3 M Q := by
  refine m_C.of (by decide +kernel) (Nat.le_of_ble_eq_true rfl) ?_
  show m_W (d + 1) 0 0 yX11_xDoes cX11_xDoes 6 none (m_qv Th Q) 0 [(0, .ref a0), (1, .int x1), (2, .int x2), (3, .int x3)] [] Th M 0 0
  refine m_iload_n dX11_xDoes_0 rfl 2 rfl ?_
  refine m_bipush (v := 21) dX11_xDoes_1 (by decide) ?_
  refine m_idiv dX11_xDoes_3 (by decide) ?_
  obtain ⟨xv1, e_xv1⟩ : ∃ xv1 : Int32, xv1 = (x2 / 21) := ⟨_, rfl⟩
  have h := h xv1 e_xv1
  rw [← e_xv1]
  refine m_istore (lv' := [(4, .int xv1), (0, .ref a0), (1, .int x1), (2, .int x2), (3, .int x3)]) dX11_xDoes_4 (by decide) rfl ?_
  refine m_iload_n dX11_xDoes_6 rfl 3 rfl ?_
  refine m_bipush (v := 21) dX11_xDoes_7 (by decide) ?_
  refine m_irem dX11_xDoes_9 (by decide) ?_
  obtain ⟨xv2, e_xv2⟩ : ∃ xv2 : Int32, xv2 = (x2 - x2 / 21 * 21) := ⟨_, rfl⟩
  have h := h xv2 e_xv2
  rw [← e_xv2]
  refine m_istore (lv' := [(5, .int xv2), (4, .int xv1), (0, .ref a0), (1, .int x1), (2, .int x2), (3, .int x3)]) dX11_xDoes_10 (by decide) rfl ?_
  refine m_aload_n dX11_xDoes_12 rfl 2 rfl ?_
  refine m_iconst (v := 0) dX11_xDoes_13 (by decide) ?_
  obtain ⟨q3, h⟩ := h
  refine m_puti f_X11_355 rfl (Or.inl rfl) dX11_xDoes_14 q3 ⟨rfl, rfl⟩ ?_
  refine m_aload_n dX11_xDoes_17 rfl 2 rfl ?_
  refine m_iconst (v := 0) dX11_xDoes_18 (by decide) ?_
  obtain ⟨M4, e_M4⟩ : ∃ M4 : mM, M4 = m_ui M a0 53 0 := ⟨_, rfl⟩
  have h := h M4 e_M4
  rw [← e_M4]
  refine m_puti f_X11_361 rfl (Or.inl rfl) dX11_xDoes_19 q3 ⟨rfl, rfl⟩ ?_
  refine m_iload dX11_xDoes_22 0 rfl ?_
  refine m_bipush (v := 16) dX11_xDoes_24 (by decide) ?_
  refine m_icmp_le (tgt := 50) dX11_xDoes_26 (by decide) (fun c1 => ?_) (fun c1 => ?_)
  · rw [if_pos c1] at h
    refine m_iload dX11_xDoes_50 0 rfl ?_
    refine m_bipush (v := 12) dX11_xDoes_52 (by decide) ?_
    refine m_icmp_le (tgt := 78) dX11_xDoes_54 (by decide) (fun c1 => ?_) (fun c1 => ?_)
    · rw [if_pos c1] at h
      refine m_iload dX11_xDoes_78 0 rfl ?_
      refine m_bipush (v := 6) dX11_xDoes_80 (by decide) ?_
      refine m_icmp_le (tgt := 105) dX11_xDoes_82 (by decide) (fun c1 => ?_) (fun c1 => ?_)
      · rw [if_pos c1] at h
        refine m_iload_n dX11_xDoes_105 rfl 5 rfl ?_
        refine m_if_ne (tgt := 189) dX11_xDoes_106 (by decide) (fun c1 => ?_) (fun c1 => ?_)
        · rw [if_neg c1] at h
          refine m_iload_n dX11_xDoes_189 rfl 5 rfl ?_
          refine m_iconst (v := 2) dX11_xDoes_190 (by decide) ?_
          refine m_icmp_ne (tgt := 204) dX11_xDoes_191 (by decide) (fun c1 => ?_) (fun c1 => ?_)
          · rw [if_neg c1] at h
            refine m_iload_n dX11_xDoes_204 rfl 5 rfl ?_
            refine m_iconst (v := 4) dX11_xDoes_205 (by decide) ?_
            refine m_icmp_ne (tgt := 247) dX11_xDoes_206 (by decide) (fun c1 => ?_) (fun c1 => ?_)
            · rw [if_neg c1] at h
              refine m_aload_n dX11_xDoes_247 rfl 2 rfl ?_
              refine m_iconst (v := 1) dX11_xDoes_248 (by decide) ?_
              obtain ⟨M29, e_M29⟩ : ∃ M29 : mM, M29 = m_ui M4 a0 55 0 := ⟨_, rfl⟩
              have h := h M29 e_M29
              rw [← e_M29]
              refine m_puti f_X11_361 rfl (Or.inl rfl) dX11_xDoes_249 q3 ⟨rfl, rfl⟩ ?_
              refine m_aload_n dX11_xDoes_252 rfl 2 rfl ?_
              refine m_aload_n dX11_xDoes_253 rfl 2 rfl ?_
              refine m_iload dX11_xDoes_254 1 rfl ?_
              refine m_aload_n dX11_xDoes_256 rfl 2 rfl ?_
              refine m_iload_n dX11_xDoes_257 rfl 3 rfl ?_
              refine m_iload dX11_xDoes_258 1 rfl ?_
              refine m_invV (ci := 11) (As := [.int x1, .int xv1]) (d' := d) (mc' := 0) (ms' := 0) (rest := [.int xv1, .ref a0, .ref a0]) i_11_walkOf v_11_walkOf t_11_walkOf l_X11_169 ⟨_, _, rfl⟩ dX11_xDoes_260 rfl rfl q3 (Nat.le_of_ble_eq_true rfl) (Nat.le_refl _) ⟨Nat.le_refl _, Nat.le_refl _⟩ (m_Ci h (fun v31 M30 h => ?_))
              show m_W (d + 1) 0 0 yX11_xDoes cX11_xDoes 6 none (m_qv Th Q) 263 [(5, .int xv2), (4, .int xv1), (0, .ref a0), (1, .int x1), (2, .int x2), (3, .int x3)] [.int v31, .int xv1, .ref a0, .ref a0] Th M30 0 0
              refine m_iconst (v := 1) dX11_xDoes_263 (by decide) ?_
              refine m_isub dX11_xDoes_264 ?_
              refine m_invV (ci := 11) (As := [.int xv1, .int ((v31 - 1))]) (d' := d) (mc' := 0) (ms' := 0) (rest := [.ref a0]) i_11_xWalks v_11_xWalks t_11_xWalks l_X11_371 ⟨_, _, rfl⟩ dX11_xDoes_265 rfl rfl q3 (Nat.le_of_ble_eq_true rfl) (Nat.le_refl _) ⟨Nat.le_refl _, Nat.le_refl _⟩ (m_Ci h (fun v33 M32 h => ?_))
              show m_W (d + 1) 0 0 yX11_xDoes cX11_xDoes 6 none (m_qv Th Q) 268 [(5, .int xv2), (4, .int xv1), (0, .ref a0), (1, .int x1), (2, .int x2), (3, .int x3)] [.int v33, .ref a0] Th M32 0 0
              refine m_bipush (v := 8) dX11_xDoes_268 (by decide) ?_
              refine m_invV (ci := 11) (As := [.int v33, .int 8]) (d' := d) (mc' := 0) (ms' := 0) (rest := []) i_11_xPuts v_11_xPuts t_11_xPuts l_X11_368 ⟨_, _, rfl⟩ dX11_xDoes_270 rfl rfl q3 (Nat.le_of_ble_eq_true rfl) (Nat.le_refl _) ⟨Nat.le_refl _, Nat.le_refl _⟩ (m_Cv h (fun M34 h => ?_))
              show m_W (d + 1) 0 0 yX11_xDoes cX11_xDoes 6 none (m_qv Th Q) 273 [(5, .int xv2), (4, .int xv1), (0, .ref a0), (1, .int x1), (2, .int x2), (3, .int x3)] [] Th M34 0 0
              exact m_return dX11_xDoes_273 rfl ⟨rfl, rfl, h⟩
            · rw [if_pos c1] at h
              refine m_aload_n dX11_xDoes_209 rfl 2 rfl ?_
              refine m_iconst (v := 2) dX11_xDoes_210 (by decide) ?_
              obtain ⟨M23, e_M23⟩ : ∃ M23 : mM, M23 = m_ui M4 a0 55 0 := ⟨_, rfl⟩
              have h := h M23 e_M23
              rw [← e_M23]
              refine m_puti f_X11_361 rfl (Or.inl rfl) dX11_xDoes_211 q3 ⟨rfl, rfl⟩ ?_
              refine m_aload_n dX11_xDoes_214 rfl 2 rfl ?_
              refine m_aload_n dX11_xDoes_215 rfl 2 rfl ?_
              refine m_iload dX11_xDoes_216 1 rfl ?_
              refine m_aload_n dX11_xDoes_218 rfl 2 rfl ?_
              obtain ⟨M24, e_M24⟩ : ∃ M24 : mM, M24 = m_ui M23 a0 55 2 := ⟨_, rfl⟩
              have h := h M24 e_M24
              rw [← e_M24]
              refine m_geti f_X11_131 rfl dX11_xDoes_219 q3 ?_
              refine m_iconst (v := 1) dX11_xDoes_222 (by decide) ?_
              refine m_isub dX11_xDoes_223 ?_
              refine m_iload dX11_xDoes_224 0 rfl ?_
              refine m_bipush (v := 6) dX11_xDoes_226 (by decide) ?_
              have hJ : m_W (d + 1) 0 0 yX11_xDoes cX11_xDoes 6 none (m_qv Th Q) 236 [(5, .int xv2), (4, .int xv1), (0, .ref a0), (1, .int x1), (2, .int x2), (3, .int x3)] [.int ((if xv2 = 6 then 1 else 0)), .int ((((M24).1 a0 2) - 1)), .int xv1, .ref a0, .ref a0] Th M24 0 0 := by
                refine m_invV (ci := 11) (As := [.int xv1, .int ((((M24).1 a0 2) - 1)), .int ((if xv2 = 6 then 1 else 0))]) (d' := d) (mc' := 0) (ms' := 0) (rest := [.ref a0]) i_11_xAstray v_11_xAstray t_11_xAstray l_X11_364 ⟨_, _, rfl⟩ dX11_xDoes_236 rfl rfl q3 (Nat.le_of_ble_eq_true rfl) (Nat.le_refl _) ⟨Nat.le_refl _, Nat.le_refl _⟩ (m_Ci h (fun v26 M25 h => ?_))
                show m_W (d + 1) 0 0 yX11_xDoes cX11_xDoes 6 none (m_qv Th Q) 239 [(5, .int xv2), (4, .int xv1), (0, .ref a0), (1, .int x1), (2, .int x2), (3, .int x3)] [.int v26, .ref a0] Th M25 0 0
                refine m_bipush (v := 8) dX11_xDoes_239 (by decide) ?_
                refine m_invV (ci := 11) (As := [.int v26, .int 8]) (d' := d) (mc' := 0) (ms' := 0) (rest := []) i_11_xPuts v_11_xPuts t_11_xPuts l_X11_368 ⟨_, _, rfl⟩ dX11_xDoes_241 rfl rfl q3 (Nat.le_of_ble_eq_true rfl) (Nat.le_refl _) ⟨Nat.le_refl _, Nat.le_refl _⟩ (m_Cv h (fun M27 h => ?_))
                show m_W (d + 1) 0 0 yX11_xDoes cX11_xDoes 6 none (m_qv Th Q) 244 [(5, .int xv2), (4, .int xv1), (0, .ref a0), (1, .int x1), (2, .int x2), (3, .int x3)] [] Th M27 0 0
                refine m_goto (tgt := 273) dX11_xDoes_244 (by decide) ?_
                exact m_return dX11_xDoes_273 rfl ⟨rfl, rfl, h⟩
              refine m_icmp_ne (tgt := 235) dX11_xDoes_228 (by decide) (fun c1 => ?_) (fun c1 => ?_)
              · simp only [if_neg c1] at hJ
                refine m_iconst (v := 0) dX11_xDoes_235 (by decide) ?_
                exact hJ
              · simp only [if_pos c1] at hJ
                refine m_iconst (v := 1) dX11_xDoes_231 (by decide) ?_
                refine m_goto (tgt := 236) dX11_xDoes_232 (by decide) ?_
                exact hJ
          · rw [if_pos c1] at h
            refine m_aload_n dX11_xDoes_194 rfl 2 rfl ?_
            refine m_iload_n dX11_xDoes_195 rfl 4 rfl ?_
            refine m_bipush (v := 8) dX11_xDoes_196 (by decide) ?_
            refine m_invV (ci := 11) (As := [.int x2, .int 8]) (d' := d) (mc' := 0) (ms' := 0) (rest := []) i_11_xPuts v_11_xPuts t_11_xPuts l_X11_368 ⟨_, _, rfl⟩ dX11_xDoes_198 rfl rfl q3 (Nat.le_of_ble_eq_true rfl) (Nat.le_refl _) ⟨Nat.le_refl _, Nat.le_refl _⟩ (m_Cv h (fun M21 h => ?_))
            show m_W (d + 1) 0 0 yX11_xDoes cX11_xDoes 6 none (m_qv Th Q) 201 [(5, .int xv2), (4, .int xv1), (0, .ref a0), (1, .int x1), (2, .int x2), (3, .int x3)] [] Th M21 0 0
            refine m_goto (tgt := 273) dX11_xDoes_201 (by decide) ?_
            exact m_return dX11_xDoes_273 rfl ⟨rfl, rfl, h⟩
        · rw [if_pos c1] at h
          refine m_aload_n dX11_xDoes_109 rfl 2 rfl ?_
          refine m_iload_n dX11_xDoes_110 rfl 3 rfl ?_
          refine m_aload_n dX11_xDoes_111 rfl 2 rfl ?_
          obtain ⟨r5, q6, h⟩ := h
          refine m_getr f_X11_19 rfl dX11_xDoes_112 q3 (by rw [e_M4]; exact q6) ?_
          refine m_iload_n dX11_xDoes_115 rfl 3 rfl ?_
          obtain ⟨q7, h⟩ := h
          obtain ⟨M8, e_M8⟩ : ∃ M8 : mM, M8 = m_ui M4 a0 55 0 := ⟨_, rfl⟩
          have h := h M8 e_M8
          rw [← e_M8]
          refine m_iald dX11_xDoes_116 q7 ?_
          refine m_iload dX11_xDoes_117 1 rfl ?_
          refine m_iload dX11_xDoes_119 0 rfl ?_
          refine m_invV (ci := 11) (As := [.int x1, .int (((M8).1 r5 (Int32.toNatClampNeg x1))), .int xv1, .int xv2]) (d' := d) (mc' := 0) (ms' := 0) (rest := []) i_11_thinks v_11_thinks t_11_thinks l_X11_288 ⟨_, _, rfl⟩ dX11_xDoes_121 rfl rfl q3 (Nat.le_of_ble_eq_true rfl) (Nat.le_refl _) ⟨Nat.le_refl _, Nat.le_refl _⟩ (m_Cv h (fun M9 h => ?_))
          show m_W (d + 1) 0 0 yX11_xDoes cX11_xDoes 6 none (m_qv Th Q) 124 [(5, .int xv2), (4, .int xv1), (0, .ref a0), (1, .int x1), (2, .int x2), (3, .int x3)] [] Th M9 0 0
          refine m_aload_n dX11_xDoes_124 rfl 2 rfl ?_
          refine m_bipush (v := 21) dX11_xDoes_125 (by decide) ?_
          refine m_iload dX11_xDoes_127 1 rfl ?_
          refine m_imul dX11_xDoes_129 ?_
          refine m_bipush (v := 6) dX11_xDoes_130 (by decide) ?_
          refine m_iadd dX11_xDoes_132 ?_
          refine m_aload_n dX11_xDoes_133 rfl 2 rfl ?_
          refine m_geti f_X11_282 rfl dX11_xDoes_134 q3 ?_
          refine m_invV (ci := 11) (As := [.int (((21 * xv1) + 6)), .int (((M9).1 a0 35))]) (d' := d) (mc' := 0) (ms' := 0) (rest := []) i_11_xPuts v_11_xPuts t_11_xPuts l_X11_368 ⟨_, _, rfl⟩ dX11_xDoes_137 rfl rfl q3 (Nat.le_of_ble_eq_true rfl) (Nat.le_refl _) ⟨Nat.le_refl _, Nat.le_refl _⟩ (m_Cv h (fun M11 h => ?_))
          show m_W (d + 1) 0 0 yX11_xDoes cX11_xDoes 6 none (m_qv Th Q) 140 [(5, .int xv2), (4, .int xv1), (0, .ref a0), (1, .int x1), (2, .int x2), (3, .int x3)] [] Th M11 0 0
          refine m_aload_n dX11_xDoes_140 rfl 2 rfl ?_
          refine m_aload_n dX11_xDoes_141 rfl 2 rfl ?_
          refine m_iload dX11_xDoes_142 1 rfl ?_
          refine m_aload_n dX11_xDoes_144 rfl 2 rfl ?_
          refine m_geti f_X11_131 rfl dX11_xDoes_145 q3 ?_
          refine m_iconst (v := 0) dX11_xDoes_148 (by decide) ?_
          refine m_invV (ci := 11) (As := [.int xv1, .int (((M11).1 a0 2)), .int 0]) (d' := d) (mc' := 0) (ms' := 0) (rest := [.ref a0]) i_11_xAstray v_11_xAstray t_11_xAstray l_X11_364 ⟨_, _, rfl⟩ dX11_xDoes_149 rfl rfl q3 (Nat.le_of_ble_eq_true rfl) (Nat.le_refl _) ⟨Nat.le_refl _, Nat.le_refl _⟩ (m_Ci h (fun v14 M13 h => ?_))
          show m_W (d + 1) 0 0 yX11_xDoes cX11_xDoes 6 none (m_qv Th Q) 152 [(5, .int xv2), (4, .int xv1), (0, .ref a0), (1, .int x1), (2, .int x2), (3, .int x3)] [.int v14, .ref a0] Th M13 0 0
          refine m_aload_n dX11_xDoes_152 rfl 2 rfl ?_
          refine m_geti f_X11_285 rfl dX11_xDoes_153 q3 ?_
          refine m_invV (ci := 11) (As := [.int v14, .int (((M13).1 a0 36))]) (d' := d) (mc' := 0) (ms' := 0) (rest := []) i_11_xPuts v_11_xPuts t_11_xPuts l_X11_368 ⟨_, _, rfl⟩ dX11_xDoes_156 rfl rfl q3 (Nat.le_of_ble_eq_true rfl) (Nat.le_refl _) ⟨Nat.le_refl _, Nat.le_refl _⟩ (m_Cv h (fun M15 h => ?_))
          show m_W (d + 1) 0 0 yX11_xDoes cX11_xDoes 6 none (m_qv Th Q) 159 [(5, .int xv2), (4, .int xv1), (0, .ref a0), (1, .int x1), (2, .int x2), (3, .int x3)] [] Th M15 0 0
          refine m_aload_n dX11_xDoes_159 rfl 2 rfl ?_
          refine m_bipush (v := 21) dX11_xDoes_160 (by decide) ?_
          refine m_iload dX11_xDoes_162 1 rfl ?_
          refine m_imul dX11_xDoes_164 ?_
          refine m_iload dX11_xDoes_165 0 rfl ?_
          refine m_invS (As := [.int xv2]) (d' := d) (mc' := 0) (ms' := 0) (rest := [.int ((21 * xv1)), .ref a0]) i_11_more s_11_more l_X11_297 dX11_xDoes_167 rfl rfl (Nat.le_of_ble_eq_true rfl) (Nat.le_refl _) ⟨Nat.le_refl _, Nat.le_refl _⟩ (m_Ci h (fun v18 M17 h => ?_))
          show m_W (d + 1) 0 0 yX11_xDoes cX11_xDoes 6 none (m_qv Th Q) 170 [(5, .int xv2), (4, .int xv1), (0, .ref a0), (1, .int x1), (2, .int x2), (3, .int x3)] [.int v18, .int ((21 * xv1)), .ref a0] Th M17 0 0
          refine m_iadd dX11_xDoes_170 ?_
          refine m_bipush (v := 8) dX11_xDoes_171 (by decide) ?_
          refine m_aload_n dX11_xDoes_173 rfl 2 rfl ?_
          refine m_geti f_X11_282 rfl dX11_xDoes_174 q3 ?_
          refine m_isub dX11_xDoes_177 ?_
          refine m_aload_n dX11_xDoes_178 rfl 2 rfl ?_
          refine m_geti f_X11_285 rfl dX11_xDoes_179 q3 ?_
          refine m_isub dX11_xDoes_182 ?_
          refine m_invV (ci := 11) (As := [.int (((21 * xv1) + v18)), .int (((8 - ((M17).1 a0 35)) - ((M17).1 a0 36)))]) (d' := d) (mc' := 0) (ms' := 0) (rest := []) i_11_xPuts v_11_xPuts t_11_xPuts l_X11_368 ⟨_, _, rfl⟩ dX11_xDoes_183 rfl rfl q3 (Nat.le_of_ble_eq_true rfl) (Nat.le_refl _) ⟨Nat.le_refl _, Nat.le_refl _⟩ (m_Cv h (fun M19 h => ?_))
          show m_W (d + 1) 0 0 yX11_xDoes cX11_xDoes 6 none (m_qv Th Q) 186 [(5, .int xv2), (4, .int xv1), (0, .ref a0), (1, .int x1), (2, .int x2), (3, .int x3)] [] Th M19 0 0
          refine m_goto (tgt := 273) dX11_xDoes_186 (by decide) ?_
          exact m_return dX11_xDoes_273 rfl ⟨rfl, rfl, h⟩
      · rw [if_neg c1] at h
        refine m_aload_n dX11_xDoes_85 rfl 2 rfl ?_
        refine m_aload_n dX11_xDoes_86 rfl 2 rfl ?_
        refine m_iload dX11_xDoes_87 1 rfl ?_
        refine m_iload dX11_xDoes_89 0 rfl ?_
        refine m_bipush (v := 7) dX11_xDoes_91 (by decide) ?_
        refine m_isub dX11_xDoes_93 ?_
        refine m_invV (ci := 11) (As := [.int xv1, .int ((xv2 - 7))]) (d' := d) (mc' := 0) (ms' := 0) (rest := [.ref a0]) i_11_xWalks v_11_xWalks t_11_xWalks l_X11_371 ⟨_, _, rfl⟩ dX11_xDoes_94 rfl rfl q3 (Nat.le_of_ble_eq_true rfl) (Nat.le_refl _) ⟨Nat.le_refl _, Nat.le_refl _⟩ (m_Ci h (fun v37 M36 h => ?_))
        show m_W (d + 1) 0 0 yX11_xDoes cX11_xDoes 6 none (m_qv Th Q) 97 [(5, .int xv2), (4, .int xv1), (0, .ref a0), (1, .int x1), (2, .int x2), (3, .int x3)] [.int v37, .ref a0] Th M36 0 0
        refine m_bipush (v := 8) dX11_xDoes_97 (by decide) ?_
        refine m_invV (ci := 11) (As := [.int v37, .int 8]) (d' := d) (mc' := 0) (ms' := 0) (rest := []) i_11_xPuts v_11_xPuts t_11_xPuts l_X11_368 ⟨_, _, rfl⟩ dX11_xDoes_99 rfl rfl q3 (Nat.le_of_ble_eq_true rfl) (Nat.le_refl _) ⟨Nat.le_refl _, Nat.le_refl _⟩ (m_Cv h (fun M38 h => ?_))
        show m_W (d + 1) 0 0 yX11_xDoes cX11_xDoes 6 none (m_qv Th Q) 102 [(5, .int xv2), (4, .int xv1), (0, .ref a0), (1, .int x1), (2, .int x2), (3, .int x3)] [] Th M38 0 0
        refine m_goto (tgt := 273) dX11_xDoes_102 (by decide) ?_
        exact m_return dX11_xDoes_273 rfl ⟨rfl, rfl, h⟩
    · rw [if_neg c1] at h
      refine m_aload_n dX11_xDoes_57 rfl 2 rfl ?_
      refine m_aload_n dX11_xDoes_58 rfl 2 rfl ?_
      refine m_iload dX11_xDoes_59 1 rfl ?_
      refine m_iload dX11_xDoes_61 0 rfl ?_
      refine m_bipush (v := 13) dX11_xDoes_63 (by decide) ?_
      refine m_isub dX11_xDoes_65 ?_
      refine m_iconst (v := 0) dX11_xDoes_66 (by decide) ?_
      refine m_invV (ci := 11) (As := [.int xv1, .int ((xv2 - 13)), .int 0]) (d' := d) (mc' := 0) (ms' := 0) (rest := [.ref a0]) i_11_xAstray v_11_xAstray t_11_xAstray l_X11_364 ⟨_, _, rfl⟩ dX11_xDoes_67 rfl rfl q3 (Nat.le_of_ble_eq_true rfl) (Nat.le_refl _) ⟨Nat.le_refl _, Nat.le_refl _⟩ (m_Ci h (fun v41 M40 h => ?_))
      show m_W (d + 1) 0 0 yX11_xDoes cX11_xDoes 6 none (m_qv Th Q) 70 [(5, .int xv2), (4, .int xv1), (0, .ref a0), (1, .int x1), (2, .int x2), (3, .int x3)] [.int v41, .ref a0] Th M40 0 0
      refine m_bipush (v := 8) dX11_xDoes_70 (by decide) ?_
      refine m_invV (ci := 11) (As := [.int v41, .int 8]) (d' := d) (mc' := 0) (ms' := 0) (rest := []) i_11_xPuts v_11_xPuts t_11_xPuts l_X11_368 ⟨_, _, rfl⟩ dX11_xDoes_72 rfl rfl q3 (Nat.le_of_ble_eq_true rfl) (Nat.le_refl _) ⟨Nat.le_refl _, Nat.le_refl _⟩ (m_Cv h (fun M42 h => ?_))
      show m_W (d + 1) 0 0 yX11_xDoes cX11_xDoes 6 none (m_qv Th Q) 75 [(5, .int xv2), (4, .int xv1), (0, .ref a0), (1, .int x1), (2, .int x2), (3, .int x3)] [] Th M42 0 0
      refine m_goto (tgt := 273) dX11_xDoes_75 (by decide) ?_
      exact m_return dX11_xDoes_273 rfl ⟨rfl, rfl, h⟩
  · rw [if_neg c1] at h
    refine m_aload_n dX11_xDoes_29 rfl 2 rfl ?_
    refine m_aload_n dX11_xDoes_30 rfl 2 rfl ?_
    refine m_iload dX11_xDoes_31 1 rfl ?_
    refine m_iload dX11_xDoes_33 0 rfl ?_
    refine m_bipush (v := 17) dX11_xDoes_35 (by decide) ?_
    refine m_isub dX11_xDoes_37 ?_
    refine m_iconst (v := 1) dX11_xDoes_38 (by decide) ?_
    refine m_invV (ci := 11) (As := [.int xv1, .int ((xv2 - 17)), .int 1]) (d' := d) (mc' := 0) (ms' := 0) (rest := [.ref a0]) i_11_xAstray v_11_xAstray t_11_xAstray l_X11_364 ⟨_, _, rfl⟩ dX11_xDoes_39 rfl rfl q3 (Nat.le_of_ble_eq_true rfl) (Nat.le_refl _) ⟨Nat.le_refl _, Nat.le_refl _⟩ (m_Ci h (fun v45 M44 h => ?_))
    show m_W (d + 1) 0 0 yX11_xDoes cX11_xDoes 6 none (m_qv Th Q) 42 [(5, .int xv2), (4, .int xv1), (0, .ref a0), (1, .int x1), (2, .int x2), (3, .int x3)] [.int v45, .ref a0] Th M44 0 0
    refine m_bipush (v := 8) dX11_xDoes_42 (by decide) ?_
    refine m_invV (ci := 11) (As := [.int v45, .int 8]) (d' := d) (mc' := 0) (ms' := 0) (rest := []) i_11_xPuts v_11_xPuts t_11_xPuts l_X11_368 ⟨_, _, rfl⟩ dX11_xDoes_44 rfl rfl q3 (Nat.le_of_ble_eq_true rfl) (Nat.le_refl _) ⟨Nat.le_refl _, Nat.le_refl _⟩ (m_Cv h (fun M46 h => ?_))
    show m_W (d + 1) 0 0 yX11_xDoes cX11_xDoes 6 none (m_qv Th Q) 47 [(5, .int xv2), (4, .int xv1), (0, .ref a0), (1, .int x1), (2, .int x2), (3, .int x3)] [] Th M46 0 0
    refine m_goto (tgt := 273) dX11_xDoes_47 (by decide) ?_
    exact m_return dX11_xDoes_273 rfl ⟨rfl, rfl, h⟩
set_option maxHeartbeats 4000000 in
set_option maxRecDepth 100000 in
theorem h11_yDoes_127 {d : Nat} {Th : mT} {Q : mM → Prop} {s0 : Int32} {s1 : Nat} {M : mM} (h : Th.2.2 s1 = some (.inl 11) ∧ (P11_yPuts d Th s1 s0 8 M (fun M1 : mM => Q M1))) : H11_yDoes_127 (d + 1) Th Q s0 s1 M := by
  show m_W (d + 1) 0 0 yX11_yDoes cX11_yDoes 6 none (m_qv Th Q) 127 [] [.int s0, .ref s1] Th M 0 0
  refine m_bipush (v := 8) dX11_yDoes_127 (by decide) ?_
  obtain ⟨q3, h⟩ := h
  refine m_invV (ci := 11) (As := [.int s0, .int 8]) (d' := d) (mc' := 0) (ms' := 0) (rest := []) i_11_yPuts v_11_yPuts t_11_yPuts l_X11_377 ⟨_, _, rfl⟩ dX11_yDoes_129 rfl rfl q3 (Nat.le_of_ble_eq_true rfl) (Nat.le_refl _) ⟨Nat.le_refl _, Nat.le_refl _⟩ (m_Cv h (fun M1 h => ?_))
  show m_W (d + 1) 0 0 yX11_yDoes cX11_yDoes 6 none (m_qv Th Q) 132 [] [] Th M1 0 0
  refine m_goto (tgt := 218) dX11_yDoes_132 (by decide) ?_
  exact m_return dX11_yDoes_218 rfl ⟨rfl, rfl, h⟩
set_option maxHeartbeats 4000000 in
set_option maxRecDepth 100000 in
theorem h11_yDoes_135 {d : Nat} {Th : mT} {Q : mM → Prop} {a0 : Nat} {x1 : Int32} {x4 : Int32} {x5 : Int32} {M : mM} (h : Th.2.2 a0 = some (.inl 11) ∧ (∃ r2 : Nat, M.2.2 a0 8 = some r2 ∧ (m_ok Th r2 .int x1 ∧ (P11_thinks d Th a0 x1 (((M).1 r2 (Int32.toNatClampNeg x1))) x4 x5 M (fun M5 : mM => P11_walkOf d Th a0 x1 x4 M5 (fun (v8 : Int32) (M7 : mM) => P11_yPuts d Th a0 ((((16 * x4) + 5) + v8)) (((M7).1 a0 35)) M7 (fun M9 : mM => P11_yAstray d Th a0 x4 (((M9).1 a0 2)) M9 (fun (v12 : Int32) (M11 : mM) => P11_yPuts d Th a0 v12 (((M11).1 a0 36)) M11 (fun M13 : mM => P11_more d Th x5 M13 (fun (v16 : Int32) (M15 : mM) => P11_yPuts d Th a0 (((16 * x4) + v16)) (((8 - ((M15).1 a0 35)) - ((M15).1 a0 36))) M15 (fun M17 : mM => Q M17))))))))))) : H11_yDoes_135 (d + 1) Th Q a0 x1 x4 x5 M := by
  show m_W (d + 1) 0 0 yX11_yDoes cX11_yDoes 6 none (m_qv Th Q) 135 [(0, .ref a0), (1, .int x1), (4, .int x4), (5, .int x5)] [] Th M 0 0
  refine m_aload_n dX11_yDoes_135 rfl 0 rfl ?_
  refine m_iload_n dX11_yDoes_136 rfl 1 rfl ?_
  refine m_aload_n dX11_yDoes_137 rfl 0 rfl ?_
  obtain ⟨q1, h⟩ := h
  obtain ⟨r2, q3, h⟩ := h
  refine m_getr f_X11_19 rfl dX11_yDoes_138 q1 q3 ?_
  refine m_iload_n dX11_yDoes_141 rfl 1 rfl ?_
  obtain ⟨q4, h⟩ := h
  refine m_iald dX11_yDoes_142 q4 ?_
  refine m_iload dX11_yDoes_143 2 rfl ?_
  refine m_iload dX11_yDoes_145 3 rfl ?_
  refine m_invV (ci := 11) (As := [.int x1, .int (((M).1 r2 (Int32.toNatClampNeg x1))), .int x4, .int x5]) (d' := d) (mc' := 0) (ms' := 0) (rest := []) i_11_thinks v_11_thinks t_11_thinks l_X11_288 ⟨_, _, rfl⟩ dX11_yDoes_147 rfl rfl q1 (Nat.le_of_ble_eq_true rfl) (Nat.le_refl _) ⟨Nat.le_refl _, Nat.le_refl _⟩ (m_Cv h (fun M5 h => ?_))
  show m_W (d + 1) 0 0 yX11_yDoes cX11_yDoes 6 none (m_qv Th Q) 150 [(0, .ref a0), (1, .int x1), (4, .int x4), (5, .int x5)] [] Th M5 0 0
  refine m_aload_n dX11_yDoes_150 rfl 0 rfl ?_
  refine m_bipush (v := 16) dX11_yDoes_151 (by decide) ?_
  refine m_iload dX11_yDoes_153 2 rfl ?_
  refine m_imul dX11_yDoes_155 ?_
  refine m_iconst (v := 5) dX11_yDoes_156 (by decide) ?_
  refine m_iadd dX11_yDoes_157 ?_
  refine m_aload_n dX11_yDoes_158 rfl 0 rfl ?_
  refine m_iload_n dX11_yDoes_159 rfl 1 rfl ?_
  refine m_iload dX11_yDoes_160 2 rfl ?_
  refine m_invV (ci := 11) (As := [.int x1, .int x4]) (d' := d) (mc' := 0) (ms' := 0) (rest := [.int (((16 * x4) + 5)), .ref a0]) i_11_walkOf v_11_walkOf t_11_walkOf l_X11_169 ⟨_, _, rfl⟩ dX11_yDoes_162 rfl rfl q1 (Nat.le_of_ble_eq_true rfl) (Nat.le_refl _) ⟨Nat.le_refl _, Nat.le_refl _⟩ (m_Ci h (fun v8 M7 h => ?_))
  show m_W (d + 1) 0 0 yX11_yDoes cX11_yDoes 6 none (m_qv Th Q) 165 [(0, .ref a0), (1, .int x1), (4, .int x4), (5, .int x5)] [.int v8, .int (((16 * x4) + 5)), .ref a0] Th M7 0 0
  refine m_iadd dX11_yDoes_165 ?_
  refine m_aload_n dX11_yDoes_166 rfl 0 rfl ?_
  refine m_geti f_X11_282 rfl dX11_yDoes_167 q1 ?_
  refine m_invV (ci := 11) (As := [.int ((((16 * x4) + 5) + v8)), .int (((M7).1 a0 35))]) (d' := d) (mc' := 0) (ms' := 0) (rest := []) i_11_yPuts v_11_yPuts t_11_yPuts l_X11_377 ⟨_, _, rfl⟩ dX11_yDoes_170 rfl rfl q1 (Nat.le_of_ble_eq_true rfl) (Nat.le_refl _) ⟨Nat.le_refl _, Nat.le_refl _⟩ (m_Cv h (fun M9 h => ?_))
  show m_W (d + 1) 0 0 yX11_yDoes cX11_yDoes 6 none (m_qv Th Q) 173 [(0, .ref a0), (1, .int x1), (4, .int x4), (5, .int x5)] [] Th M9 0 0
  refine m_aload_n dX11_yDoes_173 rfl 0 rfl ?_
  refine m_aload_n dX11_yDoes_174 rfl 0 rfl ?_
  refine m_iload dX11_yDoes_175 2 rfl ?_
  refine m_aload_n dX11_yDoes_177 rfl 0 rfl ?_
  refine m_geti f_X11_131 rfl dX11_yDoes_178 q1 ?_
  refine m_invV (ci := 11) (As := [.int x4, .int (((M9).1 a0 2))]) (d' := d) (mc' := 0) (ms' := 0) (rest := [.ref a0]) i_11_yAstray v_11_yAstray t_11_yAstray l_X11_374 ⟨_, _, rfl⟩ dX11_yDoes_181 rfl rfl q1 (Nat.le_of_ble_eq_true rfl) (Nat.le_refl _) ⟨Nat.le_refl _, Nat.le_refl _⟩ (m_Ci h (fun v12 M11 h => ?_))
  show m_W (d + 1) 0 0 yX11_yDoes cX11_yDoes 6 none (m_qv Th Q) 184 [(0, .ref a0), (1, .int x1), (4, .int x4), (5, .int x5)] [.int v12, .ref a0] Th M11 0 0
  refine m_aload_n dX11_yDoes_184 rfl 0 rfl ?_
  refine m_geti f_X11_285 rfl dX11_yDoes_185 q1 ?_
  refine m_invV (ci := 11) (As := [.int v12, .int (((M11).1 a0 36))]) (d' := d) (mc' := 0) (ms' := 0) (rest := []) i_11_yPuts v_11_yPuts t_11_yPuts l_X11_377 ⟨_, _, rfl⟩ dX11_yDoes_188 rfl rfl q1 (Nat.le_of_ble_eq_true rfl) (Nat.le_refl _) ⟨Nat.le_refl _, Nat.le_refl _⟩ (m_Cv h (fun M13 h => ?_))
  show m_W (d + 1) 0 0 yX11_yDoes cX11_yDoes 6 none (m_qv Th Q) 191 [(0, .ref a0), (1, .int x1), (4, .int x4), (5, .int x5)] [] Th M13 0 0
  refine m_aload_n dX11_yDoes_191 rfl 0 rfl ?_
  refine m_bipush (v := 16) dX11_yDoes_192 (by decide) ?_
  refine m_iload dX11_yDoes_194 2 rfl ?_
  refine m_imul dX11_yDoes_196 ?_
  refine m_iload dX11_yDoes_197 3 rfl ?_
  refine m_invS (As := [.int x5]) (d' := d) (mc' := 0) (ms' := 0) (rest := [.int ((16 * x4)), .ref a0]) i_11_more s_11_more l_X11_297 dX11_yDoes_199 rfl rfl (Nat.le_of_ble_eq_true rfl) (Nat.le_refl _) ⟨Nat.le_refl _, Nat.le_refl _⟩ (m_Ci h (fun v16 M15 h => ?_))
  show m_W (d + 1) 0 0 yX11_yDoes cX11_yDoes 6 none (m_qv Th Q) 202 [(0, .ref a0), (1, .int x1), (4, .int x4), (5, .int x5)] [.int v16, .int ((16 * x4)), .ref a0] Th M15 0 0
  refine m_iadd dX11_yDoes_202 ?_
  refine m_bipush (v := 8) dX11_yDoes_203 (by decide) ?_
  refine m_aload_n dX11_yDoes_205 rfl 0 rfl ?_
  refine m_geti f_X11_282 rfl dX11_yDoes_206 q1 ?_
  refine m_isub dX11_yDoes_209 ?_
  refine m_aload_n dX11_yDoes_210 rfl 0 rfl ?_
  refine m_geti f_X11_285 rfl dX11_yDoes_211 q1 ?_
  refine m_isub dX11_yDoes_214 ?_
  refine m_invV (ci := 11) (As := [.int (((16 * x4) + v16)), .int (((8 - ((M15).1 a0 35)) - ((M15).1 a0 36)))]) (d' := d) (mc' := 0) (ms' := 0) (rest := []) i_11_yPuts v_11_yPuts t_11_yPuts l_X11_377 ⟨_, _, rfl⟩ dX11_yDoes_215 rfl rfl q1 (Nat.le_of_ble_eq_true rfl) (Nat.le_refl _) ⟨Nat.le_refl _, Nat.le_refl _⟩ (m_Cv h (fun M17 h => ?_))
  show m_W (d + 1) 0 0 yX11_yDoes cX11_yDoes 6 none (m_qv Th Q) 218 [(0, .ref a0), (1, .int x1), (4, .int x4), (5, .int x5)] [] Th M17 0 0
  exact m_return dX11_yDoes_218 rfl ⟨rfl, rfl, h⟩
set_option maxHeartbeats 4000000 in
set_option maxRecDepth 100000 in
theorem e11_yDoes {d : Nat} {Th : mT} {Q : mM → Prop} {a0 : Nat} {x1 : Int32} {x2 : Int32} {x3 : Int32} {M : mM} (h : ∀ xv1 : Int32, xv1 = (x2 / 16) → ∀ xv2 : Int32, xv2 = (x2 - x2 / 16 * 16) → Th.2.2 a0 = some (.inl 11) ∧ (if xv2 ≤ 11 then (if xv2 ≤ 5 then (if x3 ≤ 0 then (H11_yDoes_135 (d + 1) Th Q a0 x1 xv1 xv2 (m_ui M a0 54 0)) else (∃ r4 : Nat, M.2.2 a0 10 = some r4 ∧ (m_ok Th r4 .int x1 ∧ (∀ M7 : mM, M7 = m_ui M a0 54 0 → if ((M7).1 r4 (Int32.toNatClampNeg x1)) = 1 then (if ((M7).1 a0 3) = 0 then (if x3 = 1 then (P11_walkOf d Th a0 x1 xv1 M7 (fun (v9 : Int32) (M8 : mM) => P11_yWalks d Th a0 xv1 ((v9 - 1)) M8 (fun (v11 : Int32) (M10 : mM) => H11_yDoes_127 (d + 1) Th Q v11 a0 M10))) else (P11_yAstray d Th a0 xv1 ((((M7).1 a0 2) - 1)) M7 (fun (v13 : Int32) (M12 : mM) => H11_yDoes_127 (d + 1) Th Q v13 a0 M12))) else (H11_yDoes_135 (d + 1) Th Q a0 x1 xv1 xv2 M7)) else (H11_yDoes_135 (d + 1) Th Q a0 x1 xv1 xv2 M7))))) else (P11_yWalks d Th a0 xv1 ((xv2 - 6)) (m_ui M a0 54 0) (fun (v15 : Int32) (M14 : mM) => P11_yPuts d Th a0 v15 8 M14 (fun M16 : mM => Q M16)))) else (P11_yAstray d Th a0 xv1 ((xv2 - 12)) (m_ui M a0 54 0) (fun (v19 : Int32) (M18 : mM) => P11_yPuts d Th a0 v19 8 M18 (fun M20 : mM => Q M20))))) : P11_yDoes (d + 1) Th a0 x1 x2 x3 M Q := by
  refine m_C.of (by decide +kernel) (Nat.le_of_ble_eq_true rfl) ?_
  show m_W (d + 1) 0 0 yX11_yDoes cX11_yDoes 6 none (m_qv Th Q) 0 [(0, .ref a0), (1, .int x1), (2, .int x2), (3, .int x3)] [] Th M 0 0
  refine m_iload_n dX11_yDoes_0 rfl 2 rfl ?_
  refine m_bipush (v := 16) dX11_yDoes_1 (by decide) ?_
  refine m_idiv dX11_yDoes_3 (by decide) ?_
  obtain ⟨xv1, e_xv1⟩ : ∃ xv1 : Int32, xv1 = (x2 / 16) := ⟨_, rfl⟩
  have h := h xv1 e_xv1
  rw [← e_xv1]
  refine m_istore (lv' := [(4, .int xv1), (0, .ref a0), (1, .int x1), (2, .int x2), (3, .int x3)]) dX11_yDoes_4 (by decide) rfl ?_
  refine m_iload_n dX11_yDoes_6 rfl 3 rfl ?_
  refine m_bipush (v := 16) dX11_yDoes_7 (by decide) ?_
  refine m_irem dX11_yDoes_9 (by decide) ?_
  obtain ⟨xv2, e_xv2⟩ : ∃ xv2 : Int32, xv2 = (x2 - x2 / 16 * 16) := ⟨_, rfl⟩
  have h := h xv2 e_xv2
  rw [← e_xv2]
  refine m_istore (lv' := [(5, .int xv2), (4, .int xv1), (0, .ref a0), (1, .int x1), (2, .int x2), (3, .int x3)]) dX11_yDoes_10 (by decide) rfl ?_
  refine m_aload_n dX11_yDoes_12 rfl 2 rfl ?_
  refine m_iconst (v := 0) dX11_yDoes_13 (by decide) ?_
  obtain ⟨q3, h⟩ := h
  refine m_puti f_X11_358 rfl (Or.inl rfl) dX11_yDoes_14 q3 ⟨rfl, rfl⟩ ?_
  refine m_iload dX11_yDoes_17 0 rfl ?_
  refine m_bipush (v := 11) dX11_yDoes_19 (by decide) ?_
  refine m_icmp_le (tgt := 44) dX11_yDoes_21 (by decide) (fun c1 => ?_) (fun c1 => ?_)
  · rw [if_pos c1] at h
    refine m_iload dX11_yDoes_44 0 rfl ?_
    refine m_iconst (v := 5) dX11_yDoes_46 (by decide) ?_
    refine m_icmp_le (tgt := 70) dX11_yDoes_47 (by decide) (fun c1 => ?_) (fun c1 => ?_)
    · rw [if_pos c1] at h
      refine m_iload_n dX11_yDoes_70 rfl 5 rfl ?_
      refine m_if_le (tgt := 135) dX11_yDoes_71 (by decide) (fun c1 => ?_) (fun c1 => ?_)
      · rw [if_pos c1] at h
        exact m_sub [2, 3, 1, 0] rfl h
      · rw [if_neg c1] at h
        refine m_aload_n dX11_yDoes_74 rfl 2 rfl ?_
        obtain ⟨r4, q5, h⟩ := h
        refine m_getr f_X11_25 rfl dX11_yDoes_75 q3 q5 ?_
        refine m_iload_n dX11_yDoes_78 rfl 3 rfl ?_
        obtain ⟨q6, h⟩ := h
        obtain ⟨M7, e_M7⟩ : ∃ M7 : mM, M7 = m_ui M a0 54 0 := ⟨_, rfl⟩
        have h := h M7 e_M7
        rw [← e_M7]
        refine m_iald dX11_yDoes_79 q6 ?_
        refine m_iconst (v := 1) dX11_yDoes_80 (by decide) ?_
        refine m_icmp_ne (tgt := 135) dX11_yDoes_81 (by decide) (fun c1 => ?_) (fun c1 => ?_)
        · rw [if_neg c1] at h
          exact m_sub [2, 3, 1, 0] rfl h
        · rw [if_pos c1] at h
          refine m_aload_n dX11_yDoes_84 rfl 2 rfl ?_
          refine m_geti f_X11_159 rfl dX11_yDoes_85 q3 ?_
          refine m_if_ne (tgt := 135) dX11_yDoes_88 (by decide) (fun c1 => ?_) (fun c1 => ?_)
          · rw [if_neg c1] at h
            exact m_sub [2, 3, 1, 0] rfl h
          · rw [if_pos c1] at h
            refine m_aload_n dX11_yDoes_91 rfl 2 rfl ?_
            refine m_iload_n dX11_yDoes_92 rfl 5 rfl ?_
            refine m_iconst (v := 1) dX11_yDoes_93 (by decide) ?_
            refine m_icmp_ne (tgt := 115) dX11_yDoes_94 (by decide) (fun c1 => ?_) (fun c1 => ?_)
            · rw [if_neg c1] at h
              refine m_aload_n dX11_yDoes_115 rfl 2 rfl ?_
              refine m_iload dX11_yDoes_116 1 rfl ?_
              refine m_aload_n dX11_yDoes_118 rfl 2 rfl ?_
              refine m_geti f_X11_131 rfl dX11_yDoes_119 q3 ?_
              refine m_iconst (v := 1) dX11_yDoes_122 (by decide) ?_
              refine m_isub dX11_yDoes_123 ?_
              refine m_invV (ci := 11) (As := [.int xv1, .int ((((M7).1 a0 2) - 1))]) (d' := d) (mc' := 0) (ms' := 0) (rest := [.ref a0]) i_11_yAstray v_11_yAstray t_11_yAstray l_X11_374 ⟨_, _, rfl⟩ dX11_yDoes_124 rfl rfl q3 (Nat.le_of_ble_eq_true rfl) (Nat.le_refl _) ⟨Nat.le_refl _, Nat.le_refl _⟩ (m_Ci h (fun v13 M12 h => ?_))
              show m_W (d + 1) 0 0 yX11_yDoes cX11_yDoes 6 none (m_qv Th Q) 127 [(5, .int xv2), (4, .int xv1), (0, .ref a0), (1, .int x1), (2, .int x2), (3, .int x3)] [.int v13, .ref a0] Th M12 0 0
              exact m_sub [] rfl h
            · rw [if_pos c1] at h
              refine m_aload_n dX11_yDoes_97 rfl 2 rfl ?_
              refine m_iload dX11_yDoes_98 1 rfl ?_
              refine m_aload_n dX11_yDoes_100 rfl 2 rfl ?_
              refine m_iload_n dX11_yDoes_101 rfl 3 rfl ?_
              refine m_iload dX11_yDoes_102 1 rfl ?_
              refine m_invV (ci := 11) (As := [.int x1, .int xv1]) (d' := d) (mc' := 0) (ms' := 0) (rest := [.int xv1, .ref a0, .ref a0]) i_11_walkOf v_11_walkOf t_11_walkOf l_X11_169 ⟨_, _, rfl⟩ dX11_yDoes_104 rfl rfl q3 (Nat.le_of_ble_eq_true rfl) (Nat.le_refl _) ⟨Nat.le_refl _, Nat.le_refl _⟩ (m_Ci h (fun v9 M8 h => ?_))
              show m_W (d + 1) 0 0 yX11_yDoes cX11_yDoes 6 none (m_qv Th Q) 107 [(5, .int xv2), (4, .int xv1), (0, .ref a0), (1, .int x1), (2, .int x2), (3, .int x3)] [.int v9, .int xv1, .ref a0, .ref a0] Th M8 0 0
              refine m_iconst (v := 1) dX11_yDoes_107 (by decide) ?_
              refine m_isub dX11_yDoes_108 ?_
              refine m_invV (ci := 11) (As := [.int xv1, .int ((v9 - 1))]) (d' := d) (mc' := 0) (ms' := 0) (rest := [.ref a0]) i_11_yWalks v_11_yWalks t_11_yWalks l_X11_380 ⟨_, _, rfl⟩ dX11_yDoes_109 rfl rfl q3 (Nat.le_of_ble_eq_true rfl) (Nat.le_refl _) ⟨Nat.le_refl _, Nat.le_refl _⟩ (m_Ci h (fun v11 M10 h => ?_))
              show m_W (d + 1) 0 0 yX11_yDoes cX11_yDoes 6 none (m_qv Th Q) 112 [(5, .int xv2), (4, .int xv1), (0, .ref a0), (1, .int x1), (2, .int x2), (3, .int x3)] [.int v11, .ref a0] Th M10 0 0
              refine m_goto (tgt := 127) dX11_yDoes_112 (by decide) ?_
              exact m_sub [] rfl h
    · rw [if_neg c1] at h
      refine m_aload_n dX11_yDoes_50 rfl 2 rfl ?_
      refine m_aload_n dX11_yDoes_51 rfl 2 rfl ?_
      refine m_iload dX11_yDoes_52 1 rfl ?_
      refine m_iload dX11_yDoes_54 0 rfl ?_
      refine m_bipush (v := 6) dX11_yDoes_56 (by decide) ?_
      refine m_isub dX11_yDoes_58 ?_
      refine m_invV (ci := 11) (As := [.int xv1, .int ((xv2 - 6))]) (d' := d) (mc' := 0) (ms' := 0) (rest := [.ref a0]) i_11_yWalks v_11_yWalks t_11_yWalks l_X11_380 ⟨_, _, rfl⟩ dX11_yDoes_59 rfl rfl q3 (Nat.le_of_ble_eq_true rfl) (Nat.le_refl _) ⟨Nat.le_refl _, Nat.le_refl _⟩ (m_Ci h (fun v15 M14 h => ?_))
      show m_W (d + 1) 0 0 yX11_yDoes cX11_yDoes 6 none (m_qv Th Q) 62 [(5, .int xv2), (4, .int xv1), (0, .ref a0), (1, .int x1), (2, .int x2), (3, .int x3)] [.int v15, .ref a0] Th M14 0 0
      refine m_bipush (v := 8) dX11_yDoes_62 (by decide) ?_
      refine m_invV (ci := 11) (As := [.int v15, .int 8]) (d' := d) (mc' := 0) (ms' := 0) (rest := []) i_11_yPuts v_11_yPuts t_11_yPuts l_X11_377 ⟨_, _, rfl⟩ dX11_yDoes_64 rfl rfl q3 (Nat.le_of_ble_eq_true rfl) (Nat.le_refl _) ⟨Nat.le_refl _, Nat.le_refl _⟩ (m_Cv h (fun M16 h => ?_))
      show m_W (d + 1) 0 0 yX11_yDoes cX11_yDoes 6 none (m_qv Th Q) 67 [(5, .int xv2), (4, .int xv1), (0, .ref a0), (1, .int x1), (2, .int x2), (3, .int x3)] [] Th M16 0 0
      refine m_goto (tgt := 218) dX11_yDoes_67 (by decide) ?_
      exact m_return dX11_yDoes_218 rfl ⟨rfl, rfl, h⟩
  · rw [if_neg c1] at h
    refine m_aload_n dX11_yDoes_24 rfl 2 rfl ?_
    refine m_aload_n dX11_yDoes_25 rfl 2 rfl ?_
    refine m_iload dX11_yDoes_26 1 rfl ?_
    refine m_iload dX11_yDoes_28 0 rfl ?_
    refine m_bipush (v := 12) dX11_yDoes_30 (by decide) ?_
    refine m_isub dX11_yDoes_32 ?_
    refine m_invV (ci := 11) (As := [.int xv1, .int ((xv2 - 12))]) (d' := d) (mc' := 0) (ms' := 0) (rest := [.ref a0]) i_11_yAstray v_11_yAstray t_11_yAstray l_X11_374 ⟨_, _, rfl⟩ dX11_yDoes_33 rfl rfl q3 (Nat.le_of_ble_eq_true rfl) (Nat.le_refl _) ⟨Nat.le_refl _, Nat.le_refl _⟩ (m_Ci h (fun v19 M18 h => ?_))
    show m_W (d + 1) 0 0 yX11_yDoes cX11_yDoes 6 none (m_qv Th Q) 36 [(5, .int xv2), (4, .int xv1), (0, .ref a0), (1, .int x1), (2, .int x2), (3, .int x3)] [.int v19, .ref a0] Th M18 0 0
    refine m_bipush (v := 8) dX11_yDoes_36 (by decide) ?_
    refine m_invV (ci := 11) (As := [.int v19, .int 8]) (d' := d) (mc' := 0) (ms' := 0) (rest := []) i_11_yPuts v_11_yPuts t_11_yPuts l_X11_377 ⟨_, _, rfl⟩ dX11_yDoes_38 rfl rfl q3 (Nat.le_of_ble_eq_true rfl) (Nat.le_refl _) ⟨Nat.le_refl _, Nat.le_refl _⟩ (m_Cv h (fun M20 h => ?_))
    show m_W (d + 1) 0 0 yX11_yDoes cX11_yDoes 6 none (m_qv Th Q) 41 [(5, .int xv2), (4, .int xv1), (0, .ref a0), (1, .int x1), (2, .int x2), (3, .int x3)] [] Th M20 0 0
    refine m_goto (tgt := 218) dX11_yDoes_41 (by decide) ?_
    exact m_return dX11_yDoes_218 rfl ⟨rfl, rfl, h⟩
set_option maxHeartbeats 4000000 in
set_option maxRecDepth 100000 in
theorem e11_beganAt {d : Nat} {Th : mT} {Q : Int32 → mM → Prop} {a0 : Nat} {x1 : Int32} {x2 : Int32} {x3 : Int32} {M : mM} (h : if 80 ≤ x3 then (Q 0 M) else (if (x1 / 21) = (x2 / 16) then (if (x3 / 16) = (x2 / 16) then (Th.2.2 a0 = some (.inl 11) ∧ (Q (((M).1 a0 55)) M)) else (Q 0 M)) else (Q 0 M))) : P11_beganAt (d + 1) Th a0 x1 x2 x3 M Q := by
  refine m_C.of (by decide +kernel) (Nat.le_of_ble_eq_true rfl) ?_
  show m_W (d + 1) 0 0 yX11_beganAt cX11_beganAt 4 (some .int) (m_qi Th Q) 0 [(0, .ref a0), (1, .int x1), (2, .int x2), (3, .int x3)] [] Th M 0 0
  refine m_iload_n dX11_beganAt_0 rfl 3 rfl ?_
  refine m_bipush (v := 80) dX11_beganAt_1 (by decide) ?_
  refine m_icmp_ge (tgt := 35) dX11_beganAt_3 (by decide) (fun c1 => ?_) (fun c1 => ?_)
  · rw [if_pos c1] at h
    refine m_iconst (v := 0) dX11_beganAt_35 (by decide) ?_
    exact m_ireturn dX11_beganAt_36 rfl rfl ⟨rfl, _, rfl, h⟩
  · rw [if_neg c1] at h
    refine m_iload_n dX11_beganAt_6 rfl 1 rfl ?_
    refine m_bipush (v := 21) dX11_beganAt_7 (by decide) ?_
    refine m_idiv dX11_beganAt_9 (by decide) ?_
    refine m_iload_n dX11_beganAt_10 rfl 2 rfl ?_
    refine m_bipush (v := 16) dX11_beganAt_11 (by decide) ?_
    refine m_idiv dX11_beganAt_13 (by decide) ?_
    refine m_icmp_ne (tgt := 35) dX11_beganAt_14 (by decide) (fun c1 => ?_) (fun c1 => ?_)
    · rw [if_neg c1] at h
      refine m_iconst (v := 0) dX11_beganAt_35 (by decide) ?_
      exact m_ireturn dX11_beganAt_36 rfl rfl ⟨rfl, _, rfl, h⟩
    · rw [if_pos c1] at h
      refine m_iload_n dX11_beganAt_17 rfl 3 rfl ?_
      refine m_bipush (v := 16) dX11_beganAt_18 (by decide) ?_
      refine m_idiv dX11_beganAt_20 (by decide) ?_
      refine m_iload_n dX11_beganAt_21 rfl 2 rfl ?_
      refine m_bipush (v := 16) dX11_beganAt_22 (by decide) ?_
      refine m_idiv dX11_beganAt_24 (by decide) ?_
      refine m_icmp_ne (tgt := 35) dX11_beganAt_25 (by decide) (fun c1 => ?_) (fun c1 => ?_)
      · rw [if_neg c1] at h
        refine m_iconst (v := 0) dX11_beganAt_35 (by decide) ?_
        exact m_ireturn dX11_beganAt_36 rfl rfl ⟨rfl, _, rfl, h⟩
      · rw [if_pos c1] at h
        refine m_aload_n dX11_beganAt_28 rfl 0 rfl ?_
        obtain ⟨q1, h⟩ := h
        refine m_geti f_X11_361 rfl dX11_beganAt_29 q1 ?_
        refine m_goto (tgt := 36) dX11_beganAt_32 (by decide) ?_
        exact m_ireturn dX11_beganAt_36 rfl rfl ⟨rfl, _, rfl, h⟩
set_option maxHeartbeats 4000000 in
set_option maxRecDepth 100000 in
theorem e11_placeIn {d : Nat} {Th : mT} {Q : Int32 → mM → Prop} {x0 : Int32} {x1 : Int32} {x2 : Int32} {x3 : Int32} {M : mM} (h : Q ((((25200 * x0) + (3 * ((80 * x1) + x2))) + x3)) M) : P11_placeIn (d + 1) Th x0 x1 x2 x3 M Q := by
  refine m_C.of (by decide +kernel) (Nat.le_of_ble_eq_true rfl) ?_
  show m_W (d + 1) 0 0 yX11_placeIn cX11_placeIn 4 (some .int) (m_qi Th Q) 0 [(0, .int x0), (1, .int x1), (2, .int x2), (3, .int x3)] [] Th M 0 0
  refine m_sipush (v := 25200) dX11_placeIn_0 (by decide) ?_
  refine m_iload_n dX11_placeIn_3 rfl 0 rfl ?_
  refine m_imul dX11_placeIn_4 ?_
  refine m_iconst (v := 3) dX11_placeIn_5 (by decide) ?_
  refine m_bipush (v := 80) dX11_placeIn_6 (by decide) ?_
  refine m_iload_n dX11_placeIn_8 rfl 1 rfl ?_
  refine m_imul dX11_placeIn_9 ?_
  refine m_iload_n dX11_placeIn_10 rfl 2 rfl ?_
  refine m_iadd dX11_placeIn_11 ?_
  refine m_imul dX11_placeIn_12 ?_
  refine m_iadd dX11_placeIn_13 ?_
  refine m_iload_n dX11_placeIn_14 rfl 3 rfl ?_
  refine m_iadd dX11_placeIn_15 ?_
  exact m_ireturn dX11_placeIn_16 rfl rfl ⟨rfl, _, rfl, h⟩
set_option maxHeartbeats 4000000 in
set_option maxRecDepth 100000 in
theorem h11_sixtyFours_4 {d : Nat} {Th : mT} {Q : Int64 → mM → Prop} {x0 : Int32} {l1 : Int64} {x3 : Int32} {M : mM} (h : if x0 ≤ x3 then (Q l1 M) else (∀ lv1 : Int64, lv1 = (l1 * 64) → H11_sixtyFours_4 (d + 1) Th Q x0 lv1 (x3 + 1) M)) : H11_sixtyFours_4 (d + 1) Th Q x0 l1 x3 M := by
  show m_W (d + 1) 0 0 yX11_sixtyFours cX11_sixtyFours 4 (some .long) (m_ql Th Q) 4 [(0, .int x0), (1, .long l1), (3, .int x3)] [] Th M 0 0
  refine m_iload_n dX11_sixtyFours_4 rfl 2 rfl ?_
  refine m_iload_n dX11_sixtyFours_5 rfl 0 rfl ?_
  refine m_icmp_ge (tgt := 21) dX11_sixtyFours_6 (by decide) (fun c1 => ?_) (fun c1 => ?_)
  · rw [if_pos c1] at h
    refine m_lload_n dX11_sixtyFours_21 rfl 1 rfl ?_
    exact m_lreturn dX11_sixtyFours_22 rfl ⟨rfl, _, rfl, h⟩
  · rw [if_neg c1] at h
    refine m_lload_n dX11_sixtyFours_9 rfl 1 rfl ?_
    refine m_ldc2 k_X11_334 dX11_sixtyFours_10 ?_
    refine m_lmul dX11_sixtyFours_13 ?_
    obtain ⟨lv1, e_lv1⟩ : ∃ lv1 : Int64, lv1 = (l1 * 64) := ⟨_, rfl⟩
    have h := h lv1 e_lv1
    rw [← e_lv1]
    refine m_lstore_n (lv' := [(1, .long lv1), (0, .int x0), (3, .int x3)]) dX11_sixtyFours_14 rfl (by decide) rfl ?_
    refine m_iinc (v := x3 + 1) (lv' := [(3, .int (x3 + 1)), (1, .long lv1), (0, .int x0)]) dX11_sixtyFours_15 2 rfl rfl (by decide) rfl ?_
    refine m_goto (tgt := 4) dX11_sixtyFours_18 (by decide) ?_
    exact m_sub [2, 1, 0] rfl h
set_option maxHeartbeats 4000000 in
set_option maxRecDepth 100000 in
theorem e11_sixtyFours {d : Nat} {Th : mT} {Q : Int64 → mM → Prop} {x0 : Int32} {M : mM} (h : H11_sixtyFours_4 (d + 1) Th Q x0 1 0 M) : P11_sixtyFours (d + 1) Th x0 M Q := by
  refine m_C.of (by decide +kernel) (Nat.le_of_ble_eq_true rfl) ?_
  show m_W (d + 1) 0 0 yX11_sixtyFours cX11_sixtyFours 4 (some .long) (m_ql Th Q) 0 [(0, .int x0)] [] Th M 0 0
  refine m_lconst (v := 1) dX11_sixtyFours_0 (by decide) ?_
  refine m_lstore_n (lv' := [(1, .long 1), (0, .int x0)]) dX11_sixtyFours_1 rfl (by decide) rfl ?_
  refine m_iconst (v := 0) dX11_sixtyFours_2 (by decide) ?_
  refine m_istore_n (lv' := [(3, .int 0), (1, .long 1), (0, .int x0)]) dX11_sixtyFours_3 rfl (by decide) rfl ?_
  exact m_sub [2, 1, 0] rfl h
set_option maxHeartbeats 4000000 in
set_option maxRecDepth 100000 in
theorem h11_behind_6 {d : Nat} {Th : mT} {Q : Int64 → mM → Prop} {a0 : Nat} {x1 : Int32} {x2 : Int32} {x3 : Int32} {x4 : Int32} {l5 : Int64} {x7 : Int32} {M : mM} (h : Th.2.2 a0 = some (.inl 11) ∧ (if ((M).1 a0 53) ≤ x7 then (Q l5 M) else (H11_behind_18 (d + 1) Th Q a0 x1 x2 x3 x4 l5 x7 0 M))) : H11_behind_6 (d + 1) Th Q a0 x1 x2 x3 x4 l5 x7 M := by
  show m_W (d + 1) 0 0 yX11_behind cX11_behind 12 (some .long) (m_ql Th Q) 6 [(0, .ref a0), (1, .int x1), (2, .int x2), (3, .int x3), (4, .int x4), (5, .long l5), (7, .int x7)] [] Th M 0 0
  refine m_iload dX11_behind_6 6 rfl ?_
  refine m_aload_n dX11_behind_8 rfl 0 rfl ?_
  obtain ⟨q1, h⟩ := h
  refine m_geti f_X11_355 rfl dX11_behind_9 q1 ?_
  refine m_icmp_ge (tgt := 219) dX11_behind_12 (by decide) (fun c1 => ?_) (fun c1 => ?_)
  · rw [if_pos c1] at h
    refine m_lload dX11_behind_219 5 rfl ?_
    exact m_lreturn dX11_behind_221 rfl ⟨rfl, _, rfl, h⟩
  · rw [if_neg c1] at h
    refine m_iconst (v := 0) dX11_behind_15 (by decide) ?_
    refine m_istore (lv' := [(8, .int 0), (0, .ref a0), (1, .int x1), (2, .int x2), (3, .int x3), (4, .int x4), (5, .long l5), (7, .int x7)]) dX11_behind_16 (by decide) rfl ?_
    exact m_sub [1, 2, 3, 4, 5, 6, 7, 0] rfl h
set_option maxHeartbeats 4000000 in
set_option maxRecDepth 100000 in
theorem h11_behind_18 {d : Nat} {Th : mT} {Q : Int64 → mM → Prop} {a0 : Nat} {x1 : Int32} {x2 : Int32} {x3 : Int32} {x4 : Int32} {l5 : Int64} {x7 : Int32} {x8 : Int32} {M : mM} (h : Th.2.2 a0 = some (.inl 11) ∧ (if ((M).1 a0 54) ≤ x8 then (H11_behind_6 (d + 1) Th Q a0 x1 x2 x3 x4 l5 (x7 + 1) M) else (∃ r2 : Nat, M.2.2 a0 50 = some r2 ∧ (m_ok Th r2 .int x7 ∧ (∃ r5 : Nat, M.2.2 a0 52 = some r5 ∧ (m_ok Th r5 .int x8 ∧ (∀ lv8 : Int64, lv8 = ((((M).1 r2 (Int32.toNatClampNeg x7)) : Int32).toInt64 * (((M).1 r5 (Int32.toNatClampNeg x8)) : Int32).toInt64) → ∃ r9 : Nat, M.2.2 a0 49 = some r9 ∧ (m_ok Th r9 .int x7 ∧ (if ((M).1 r9 (Int32.toNatClampNeg x7)) = 105 then (H11_behind_70 (d + 1) Th Q a0 x1 x2 x3 x4 l5 x7 x8 lv8 M) else (∃ r12 : Nat, M.2.2 a0 51 = some r12 ∧ (m_ok Th r12 .int x8 ∧ (if ((M).1 r12 (Int32.toNatClampNeg x8)) = 80 then (H11_behind_70 (d + 1) Th Q a0 x1 x2 x3 x4 l5 x7 x8 lv8 M) else (if x1 = 1 then (∀ lv15 : Int64, lv15 = (l5 + lv8) → H11_behind_18 (d + 1) Th Q a0 x1 x2 x3 x4 lv15 x7 (x8 + 1) M) else (P11_beganAt d Th a0 x2 x3 (((M).1 r12 (Int32.toNatClampNeg x8))) M (fun (v17 : Int32) (M16 : mM) => P11_placeIn d Th ((x1 - 1)) (((M).1 r9 (Int32.toNatClampNeg x7))) (((M).1 r12 (Int32.toNatClampNeg x8))) v17 M16 (fun (v19 : Int32) (M18 : mM) => if x4 = 0 then (∃ r20 : Nat, M18.2.2 a0 47 = some r20 ∧ (m_ok Th r20 .long v19 ∧ (∀ lv23 : Int64, lv23 = (l5 + (lv8 * ((M18).2.1 r20 (Int32.toNatClampNeg v19)))) → H11_behind_18 (d + 1) Th Q a0 x1 x2 x3 x4 lv23 x7 (x8 + 1) M18))) else (∃ r24 : Nat, M18.2.2 a0 46 = some r24 ∧ (m_okw Th r24 .boolean v19 ∧ (H11_behind_18 (d + 1) Th Q a0 x1 x2 x3 x4 l5 x7 (x8 + 1) (m_ui M18 r24 (Int32.toNatClampNeg v19) (1 &&& 1))))))))))))))))))))) : H11_behind_18 (d + 1) Th Q a0 x1 x2 x3 x4 l5 x7 x8 M := by
  show m_W (d + 1) 0 0 yX11_behind cX11_behind 12 (some .long) (m_ql Th Q) 18 [(0, .ref a0), (1, .int x1), (2, .int x2), (3, .int x3), (4, .int x4), (5, .long l5), (7, .int x7), (8, .int x8)] [] Th M 0 0
  refine m_iload dX11_behind_18 7 rfl ?_
  refine m_aload_n dX11_behind_20 rfl 0 rfl ?_
  obtain ⟨q1, h⟩ := h
  refine m_geti f_X11_358 rfl dX11_behind_21 q1 ?_
  refine m_icmp_ge (tgt := 213) dX11_behind_24 (by decide) (fun c1 => ?_) (fun c1 => ?_)
  · rw [if_pos c1] at h
    refine m_iinc (v := x7 + 1) (lv' := [(7, .int (x7 + 1)), (0, .ref a0), (1, .int x1), (2, .int x2), (3, .int x3), (4, .int x4), (5, .long l5), (8, .int x8)]) dX11_behind_213 6 rfl rfl (by decide) rfl ?_
    refine m_goto (tgt := 6) dX11_behind_216 (by decide) ?_
    exact m_sub [1, 2, 3, 4, 5, 6, 0] rfl h
  · rw [if_neg c1] at h
    refine m_aload_n dX11_behind_27 rfl 0 rfl ?_
    obtain ⟨r2, q3, h⟩ := h
    refine m_getr f_X11_98 rfl dX11_behind_28 q1 q3 ?_
    refine m_iload dX11_behind_31 6 rfl ?_
    obtain ⟨q4, h⟩ := h
    refine m_iald dX11_behind_33 q4 ?_
    refine m_i2l dX11_behind_34 ?_
    refine m_aload_n dX11_behind_35 rfl 0 rfl ?_
    obtain ⟨r5, q6, h⟩ := h
    refine m_getr f_X11_104 rfl dX11_behind_36 q1 q6 ?_
    refine m_iload dX11_behind_39 7 rfl ?_
    obtain ⟨q7, h⟩ := h
    refine m_iald dX11_behind_41 q7 ?_
    refine m_i2l dX11_behind_42 ?_
    refine m_lmul dX11_behind_43 ?_
    obtain ⟨lv8, e_lv8⟩ : ∃ lv8 : Int64, lv8 = ((((M).1 r2 (Int32.toNatClampNeg x7)) : Int32).toInt64 * (((M).1 r5 (Int32.toNatClampNeg x8)) : Int32).toInt64) := ⟨_, rfl⟩
    have h := h lv8 e_lv8
    rw [← e_lv8]
    refine m_lstore (lv' := [(9, .long lv8), (0, .ref a0), (1, .int x1), (2, .int x2), (3, .int x3), (4, .int x4), (5, .long l5), (7, .int x7), (8, .int x8)]) dX11_behind_44 (by decide) rfl ?_
    refine m_aload_n dX11_behind_46 rfl 1 rfl ?_
    obtain ⟨r9, q10, h⟩ := h
    refine m_getr f_X11_95 rfl dX11_behind_47 q1 q10 ?_
    refine m_iload dX11_behind_50 7 rfl ?_
    obtain ⟨q11, h⟩ := h
    refine m_iald dX11_behind_52 q11 ?_
    refine m_bipush (v := 105) dX11_behind_53 (by decide) ?_
    refine m_icmp_eq (tgt := 70) dX11_behind_55 (by decide) (fun c1 => ?_) (fun c1 => ?_)
    · rw [if_pos c1] at h
      exact m_sub [1, 2, 3, 4, 5, 6, 7, 8, 0] rfl h
    · rw [if_neg c1] at h
      refine m_aload_n dX11_behind_58 rfl 1 rfl ?_
      obtain ⟨r12, q13, h⟩ := h
      refine m_getr f_X11_101 rfl dX11_behind_59 q1 q13 ?_
      refine m_iload dX11_behind_62 8 rfl ?_
      obtain ⟨q14, h⟩ := h
      refine m_iald dX11_behind_64 q14 ?_
      refine m_bipush (v := 80) dX11_behind_65 (by decide) ?_
      refine m_icmp_ne (tgt := 126) dX11_behind_67 (by decide) (fun c1 => ?_) (fun c1 => ?_)
      · rw [if_neg c1] at h
        refine m_iload_n dX11_behind_126 rfl 2 rfl ?_
        refine m_iconst (v := 1) dX11_behind_127 (by decide) ?_
        refine m_icmp_ne (tgt := 141) dX11_behind_128 (by decide) (fun c1 => ?_) (fun c1 => ?_)
        · rw [if_neg c1] at h
          refine m_iload_n dX11_behind_141 rfl 2 rfl ?_
          refine m_iconst (v := 1) dX11_behind_142 (by decide) ?_
          refine m_isub dX11_behind_143 ?_
          refine m_aload_n dX11_behind_144 rfl 1 rfl ?_
          refine m_getr f_X11_95 rfl dX11_behind_145 q1 q10 ?_
          refine m_iload dX11_behind_148 7 rfl ?_
          refine m_iald dX11_behind_150 q11 ?_
          refine m_aload_n dX11_behind_151 rfl 1 rfl ?_
          refine m_getr f_X11_101 rfl dX11_behind_152 q1 q13 ?_
          refine m_iload dX11_behind_155 8 rfl ?_
          refine m_iald dX11_behind_157 q14 ?_
          refine m_aload_n dX11_behind_158 rfl 1 rfl ?_
          refine m_iload_n dX11_behind_159 rfl 3 rfl ?_
          refine m_iload_n dX11_behind_160 rfl 4 rfl ?_
          refine m_aload_n dX11_behind_161 rfl 1 rfl ?_
          refine m_getr f_X11_101 rfl dX11_behind_162 q1 q13 ?_
          refine m_iload dX11_behind_165 8 rfl ?_
          refine m_iald dX11_behind_167 q14 ?_
          refine m_invV (ci := 11) (As := [.int x2, .int x3, .int (((M).1 r12 (Int32.toNatClampNeg x8)))]) (d' := d) (mc' := 0) (ms' := 0) (rest := [.int (((M).1 r12 (Int32.toNatClampNeg x8))), .int (((M).1 r9 (Int32.toNatClampNeg x7))), .int ((x1 - 1))]) i_11_beganAt v_11_beganAt t_11_beganAt l_X11_386 ⟨_, _, rfl⟩ dX11_behind_168 rfl rfl q1 (Nat.le_of_ble_eq_true rfl) (Nat.le_refl _) ⟨Nat.le_refl _, Nat.le_refl _⟩ (m_Ci h (fun v17 M16 h => ?_))
          show m_W (d + 1) 0 0 yX11_behind cX11_behind 12 (some .long) (m_ql Th Q) 171 [(9, .long lv8), (0, .ref a0), (1, .int x1), (2, .int x2), (3, .int x3), (4, .int x4), (5, .long l5), (7, .int x7), (8, .int x8)] [.int v17, .int (((M).1 r12 (Int32.toNatClampNeg x8))), .int (((M).1 r9 (Int32.toNatClampNeg x7))), .int ((x1 - 1))] Th M16 0 0
          refine m_invS (As := [.int ((x1 - 1)), .int (((M).1 r9 (Int32.toNatClampNeg x7))), .int (((M).1 r12 (Int32.toNatClampNeg x8))), .int v17]) (d' := d) (mc' := 0) (ms' := 0) (rest := []) i_11_placeIn s_11_placeIn l_X11_389 dX11_behind_171 rfl rfl (Nat.le_of_ble_eq_true rfl) (Nat.le_refl _) ⟨Nat.le_refl _, Nat.le_refl _⟩ (m_Ci h (fun v19 M18 h => ?_))
          show m_W (d + 1) 0 0 yX11_behind cX11_behind 12 (some .long) (m_ql Th Q) 174 [(9, .long lv8), (0, .ref a0), (1, .int x1), (2, .int x2), (3, .int x3), (4, .int x4), (5, .long l5), (7, .int x7), (8, .int x8)] [.int v19] Th M18 0 0
          refine m_istore (lv' := [(11, .int v19), (9, .long lv8), (0, .ref a0), (1, .int x1), (2, .int x2), (3, .int x3), (4, .int x4), (5, .long l5), (7, .int x7), (8, .int x8)]) dX11_behind_174 (by decide) rfl ?_
          refine m_iload dX11_behind_176 6 rfl ?_
          refine m_if_eq (tgt := 192) dX11_behind_178 (by decide) (fun c1 => ?_) (fun c1 => ?_)
          · rw [if_pos c1] at h
            refine m_lload dX11_behind_192 7 rfl ?_
            refine m_lload dX11_behind_194 1 rfl ?_
            refine m_aload_n dX11_behind_196 rfl 2 rfl ?_
            obtain ⟨r20, q21, h⟩ := h
            refine m_getr f_X11_89 rfl dX11_behind_197 q1 q21 ?_
            refine m_iload dX11_behind_200 0 rfl ?_
            obtain ⟨q22, h⟩ := h
            refine m_lald dX11_behind_202 q22 ?_
            refine m_lmul dX11_behind_203 ?_
            refine m_ladd dX11_behind_204 ?_
            obtain ⟨lv23, e_lv23⟩ : ∃ lv23 : Int64, lv23 = (l5 + (lv8 * ((M18).2.1 r20 (Int32.toNatClampNeg v19)))) := ⟨_, rfl⟩
            have h := h lv23 e_lv23
            rw [← e_lv23]
            refine m_lstore (lv' := [(5, .long lv23), (11, .int v19), (9, .long lv8), (0, .ref a0), (1, .int x1), (2, .int x2), (3, .int x3), (4, .int x4), (7, .int x7), (8, .int x8)]) dX11_behind_205 (by decide) rfl ?_
            refine m_iinc (v := x8 + 1) (lv' := [(8, .int (x8 + 1)), (5, .long lv23), (11, .int v19), (9, .long lv8), (0, .ref a0), (1, .int x1), (2, .int x2), (3, .int x3), (4, .int x4), (7, .int x7)]) dX11_behind_207 9 rfl rfl (by decide) rfl ?_
            refine m_goto (tgt := 18) dX11_behind_210 (by decide) ?_
            exact m_sub [4, 5, 6, 7, 8, 1, 9, 0] rfl h
          · rw [if_neg c1] at h
            refine m_aload_n dX11_behind_181 rfl 2 rfl ?_
            obtain ⟨r24, q25, h⟩ := h
            refine m_getr f_X11_85 rfl dX11_behind_182 q1 q25 ?_
            refine m_iload dX11_behind_185 0 rfl ?_
            refine m_iconst (v := 1) dX11_behind_187 (by decide) ?_
            obtain ⟨q26, h⟩ := h
            refine m_zast dX11_behind_188 q26 ?_
            refine m_goto (tgt := 207) dX11_behind_189 (by decide) ?_
            refine m_iinc (v := x8 + 1) (lv' := [(8, .int (x8 + 1)), (11, .int v19), (9, .long lv8), (0, .ref a0), (1, .int x1), (2, .int x2), (3, .int x3), (4, .int x4), (5, .long l5), (7, .int x7)]) dX11_behind_207 9 rfl rfl (by decide) rfl ?_
            refine m_goto (tgt := 18) dX11_behind_210 (by decide) ?_
            exact m_sub [3, 4, 5, 6, 7, 8, 9, 0] rfl h
        · rw [if_pos c1] at h
          refine m_lload dX11_behind_131 6 rfl ?_
          refine m_lload dX11_behind_133 0 rfl ?_
          refine m_ladd dX11_behind_135 ?_
          obtain ⟨lv15, e_lv15⟩ : ∃ lv15 : Int64, lv15 = (l5 + lv8) := ⟨_, rfl⟩
          have h := h lv15 e_lv15
          rw [← e_lv15]
          refine m_lstore (lv' := [(5, .long lv15), (9, .long lv8), (0, .ref a0), (1, .int x1), (2, .int x2), (3, .int x3), (4, .int x4), (7, .int x7), (8, .int x8)]) dX11_behind_136 (by decide) rfl ?_
          refine m_goto (tgt := 207) dX11_behind_138 (by decide) ?_
          refine m_iinc (v := x8 + 1) (lv' := [(8, .int (x8 + 1)), (5, .long lv15), (9, .long lv8), (0, .ref a0), (1, .int x1), (2, .int x2), (3, .int x3), (4, .int x4), (7, .int x7)]) dX11_behind_207 8 rfl rfl (by decide) rfl ?_
          refine m_goto (tgt := 18) dX11_behind_210 (by decide) ?_
          exact m_sub [3, 4, 5, 6, 7, 1, 8, 0] rfl h
      · rw [if_pos c1] at h
        exact m_sub [1, 2, 3, 4, 5, 6, 7, 8, 0] rfl h
set_option maxHeartbeats 4000000 in
set_option maxRecDepth 100000 in
theorem h11_behind_70 {d : Nat} {Th : mT} {Q : Int64 → mM → Prop} {a0 : Nat} {x1 : Int32} {x2 : Int32} {x3 : Int32} {x4 : Int32} {l5 : Int64} {x7 : Int32} {x8 : Int32} {l9 : Int64} {M : mM} (h : Th.2.2 a0 = some (.inl 11) ∧ (∃ r2 : Nat, M.2.2 a0 49 = some r2 ∧ (m_ok Th r2 .int x7 ∧ (if ((M).1 r2 (Int32.toNatClampNeg x7)) = 105 then (∃ r5 : Nat, M.2.2 a0 51 = some r5 ∧ (m_ok Th r5 .int x8 ∧ (if ((M).1 r5 (Int32.toNatClampNeg x8)) = 80 then (H11_behind_103 (d + 1) Th Q a0 x1 x2 x3 x4 l5 x7 x8 l9 1 M) else (H11_behind_103 (d + 1) Th Q a0 x1 x2 x3 x4 l5 x7 x8 l9 2 M)))) else (H11_behind_103 (d + 1) Th Q a0 x1 x2 x3 x4 l5 x7 x8 l9 0 M))))) : H11_behind_70 (d + 1) Th Q a0 x1 x2 x3 x4 l5 x7 x8 l9 M := by
  show m_W (d + 1) 0 0 yX11_behind cX11_behind 12 (some .long) (m_ql Th Q) 70 [(0, .ref a0), (1, .int x1), (2, .int x2), (3, .int x3), (4, .int x4), (5, .long l5), (7, .int x7), (8, .int x8), (9, .long l9)] [] Th M 0 0
  refine m_aload_n dX11_behind_70 rfl 0 rfl ?_
  obtain ⟨q1, h⟩ := h
  obtain ⟨r2, q3, h⟩ := h
  refine m_getr f_X11_95 rfl dX11_behind_71 q1 q3 ?_
  refine m_iload dX11_behind_74 6 rfl ?_
  obtain ⟨q4, h⟩ := h
  refine m_iald dX11_behind_76 q4 ?_
  refine m_bipush (v := 105) dX11_behind_77 (by decide) ?_
  refine m_icmp_eq (tgt := 86) dX11_behind_79 (by decide) (fun c1 => ?_) (fun c1 => ?_)
  · rw [if_pos c1] at h
    refine m_aload_n dX11_behind_86 rfl 0 rfl ?_
    obtain ⟨r5, q6, h⟩ := h
    refine m_getr f_X11_101 rfl dX11_behind_87 q1 q6 ?_
    refine m_iload dX11_behind_90 7 rfl ?_
    obtain ⟨q7, h⟩ := h
    refine m_iald dX11_behind_92 q7 ?_
    refine m_bipush (v := 80) dX11_behind_93 (by decide) ?_
    refine m_icmp_ne (tgt := 102) dX11_behind_95 (by decide) (fun c1 => ?_) (fun c1 => ?_)
    · rw [if_neg c1] at h
      refine m_iconst (v := 2) dX11_behind_102 (by decide) ?_
      exact h
    · rw [if_pos c1] at h
      refine m_iconst (v := 1) dX11_behind_98 (by decide) ?_
      refine m_goto (tgt := 103) dX11_behind_99 (by decide) ?_
      exact h
  · rw [if_neg c1] at h
    refine m_iconst (v := 0) dX11_behind_82 (by decide) ?_
    refine m_goto (tgt := 103) dX11_behind_83 (by decide) ?_
    exact h
set_option maxHeartbeats 4000000 in
set_option maxRecDepth 100000 in
theorem h11_behind_103 {d : Nat} {Th : mT} {Q : Int64 → mM → Prop} {a0 : Nat} {x1 : Int32} {x2 : Int32} {x3 : Int32} {x4 : Int32} {l5 : Int64} {x7 : Int32} {x8 : Int32} {l9 : Int64} {s0 : Int32} {M : mM} (h : P11_sixtyFours d Th ((x1 - 1)) M (fun (v2 : Int64) (M1 : mM) => ∀ lv3 : Int64, lv3 = (l5 + ((l9 * (s0 : Int32).toInt64) * v2)) → H11_behind_18 (d + 1) Th Q a0 x1 x2 x3 x4 lv3 x7 (x8 + 1) M1)) : H11_behind_103 (d + 1) Th Q a0 x1 x2 x3 x4 l5 x7 x8 l9 s0 M := by
  show m_W (d + 1) 0 0 yX11_behind cX11_behind 12 (some .long) (m_ql Th Q) 103 [(0, .ref a0), (1, .int x1), (2, .int x2), (3, .int x3), (4, .int x4), (5, .long l5), (7, .int x7), (8, .int x8), (9, .long l9)] [.int s0] Th M 0 0
  refine m_istore (lv' := [(11, .int s0), (0, .ref a0), (1, .int x1), (2, .int x2), (3, .int x3), (4, .int x4), (5, .long l5), (7, .int x7), (8, .int x8), (9, .long l9)]) dX11_behind_103 (by decide) rfl ?_
  refine m_lload dX11_behind_105 6 rfl ?_
  refine m_lload dX11_behind_107 9 rfl ?_
  refine m_iload dX11_behind_109 0 rfl ?_
  refine m_i2l dX11_behind_111 ?_
  refine m_lmul dX11_behind_112 ?_
  refine m_iload_n dX11_behind_113 rfl 2 rfl ?_
  refine m_iconst (v := 1) dX11_behind_114 (by decide) ?_
  refine m_isub dX11_behind_115 ?_
  refine m_invS (As := [.int ((x1 - 1))]) (d' := d) (mc' := 0) (ms' := 0) (rest := [.long ((l9 * (s0 : Int32).toInt64)), .long l5]) i_11_sixtyFours s_11_sixtyFours l_X11_383 dX11_behind_116 rfl rfl (Nat.le_of_ble_eq_true rfl) (Nat.le_refl _) ⟨Nat.le_refl _, Nat.le_refl _⟩ (m_Cl h (fun v2 M1 h => ?_))
  show m_W (d + 1) 0 0 yX11_behind cX11_behind 12 (some .long) (m_ql Th Q) 119 [(11, .int s0), (0, .ref a0), (1, .int x1), (2, .int x2), (3, .int x3), (4, .int x4), (5, .long l5), (7, .int x7), (8, .int x8), (9, .long l9)] [.long v2, .long ((l9 * (s0 : Int32).toInt64)), .long l5] Th M1 0 0
  refine m_lmul dX11_behind_119 ?_
  refine m_ladd dX11_behind_120 ?_
  obtain ⟨lv3, e_lv3⟩ : ∃ lv3 : Int64, lv3 = (l5 + ((l9 * (s0 : Int32).toInt64) * v2)) := ⟨_, rfl⟩
  have h := h lv3 e_lv3
  rw [← e_lv3]
  refine m_lstore (lv' := [(5, .long lv3), (11, .int s0), (0, .ref a0), (1, .int x1), (2, .int x2), (3, .int x3), (4, .int x4), (7, .int x7), (8, .int x8), (9, .long l9)]) dX11_behind_121 (by decide) rfl ?_
  refine m_goto (tgt := 207) dX11_behind_123 (by decide) ?_
  refine m_iinc (v := x8 + 1) (lv' := [(8, .int (x8 + 1)), (5, .long lv3), (11, .int s0), (0, .ref a0), (1, .int x1), (2, .int x2), (3, .int x3), (4, .int x4), (7, .int x7), (9, .long l9)]) dX11_behind_207 8 rfl rfl (by decide) rfl ?_
  refine m_goto (tgt := 18) dX11_behind_210 (by decide) ?_
  exact m_sub [3, 4, 5, 6, 7, 1, 8, 0] rfl h
set_option maxHeartbeats 4000000 in
set_option maxRecDepth 100000 in
theorem e11_behind {d : Nat} {Th : mT} {Q : Int64 → mM → Prop} {a0 : Nat} {x1 : Int32} {x2 : Int32} {x3 : Int32} {x4 : Int32} {M : mM} (h : H11_behind_6 (d + 1) Th Q a0 x1 x2 x3 x4 0 0 M) : P11_behind (d + 1) Th a0 x1 x2 x3 x4 M Q := by
  refine m_C.of (by decide +kernel) (Nat.le_of_ble_eq_true rfl) ?_
  show m_W (d + 1) 0 0 yX11_behind cX11_behind 12 (some .long) (m_ql Th Q) 0 [(0, .ref a0), (1, .int x1), (2, .int x2), (3, .int x3), (4, .int x4)] [] Th M 0 0
  refine m_lconst (v := 0) dX11_behind_0 (by decide) ?_
  refine m_lstore (lv' := [(5, .long 0), (0, .ref a0), (1, .int x1), (2, .int x2), (3, .int x3), (4, .int x4)]) dX11_behind_1 (by decide) rfl ?_
  refine m_iconst (v := 0) dX11_behind_3 (by decide) ?_
  refine m_istore (lv' := [(7, .int 0), (5, .long 0), (0, .ref a0), (1, .int x1), (2, .int x2), (3, .int x3), (4, .int x4)]) dX11_behind_4 (by decide) rfl ?_
  exact m_sub [2, 3, 4, 5, 6, 1, 0] rfl h
set_option maxHeartbeats 4000000 in
set_option maxRecDepth 100000 in
theorem e11_isLet {d : Nat} {Th : mT} {Q : Int32 → mM → Prop} {a0 : Nat} {x1 : Int32} {x2 : Int32} {M : mM} (h : if x1 < 2 then (Q 1 M) else (m_bool ((if ((x2 >>> ((x1 - 2) &&& 31)) &&& 1) = 0 then 1 else 0)) ∧ Q ((if ((x2 >>> ((x1 - 2) &&& 31)) &&& 1) = 0 then 1 else 0)) M)) : P11_isLet (d + 1) Th a0 x1 x2 M Q := by
  refine m_C.of (by decide +kernel) (Nat.le_of_ble_eq_true rfl) ?_
  show m_W (d + 1) 0 0 yX11_isLet cX11_isLet 3 (some .boolean) (m_qi Th Q) 0 [(0, .ref a0), (1, .int x1), (2, .int x2)] [] Th M 0 0
  refine m_iload_n dX11_isLet_0 rfl 1 rfl ?_
  refine m_iconst (v := 2) dX11_isLet_1 (by decide) ?_
  refine m_icmp_lt (tgt := 15) dX11_isLet_2 (by decide) (fun c1 => ?_) (fun c1 => ?_)
  · rw [if_pos c1] at h
    refine m_iconst (v := 1) dX11_isLet_15 (by decide) ?_
    refine m_goto (tgt := 20) dX11_isLet_16 (by decide) ?_
    exact m_ireturn dX11_isLet_20 rfl (by decide) ⟨rfl, _, rfl, h⟩
  · rw [if_neg c1] at h
    refine m_iload_n dX11_isLet_5 rfl 2 rfl ?_
    refine m_iload_n dX11_isLet_6 rfl 1 rfl ?_
    refine m_iconst (v := 2) dX11_isLet_7 (by decide) ?_
    refine m_isub dX11_isLet_8 ?_
    refine m_ishr dX11_isLet_9 ?_
    refine m_iconst (v := 1) dX11_isLet_10 (by decide) ?_
    refine m_iand dX11_isLet_11 ?_
    have hJ : m_W (d + 1) 0 0 yX11_isLet cX11_isLet 3 (some .boolean) (m_qi Th Q) 20 [(0, .ref a0), (1, .int x1), (2, .int x2)] [.int ((if ((x2 >>> ((x1 - 2) &&& 31)) &&& 1) = 0 then 1 else 0))] Th M 0 0 := by
      exact m_ireturn dX11_isLet_20 rfl h.1 ⟨rfl, _, rfl, h.2⟩
    refine m_if_ne (tgt := 19) dX11_isLet_12 (by decide) (fun c1 => ?_) (fun c1 => ?_)
    · simp only [if_neg c1] at hJ
      refine m_iconst (v := 0) dX11_isLet_19 (by decide) ?_
      exact hJ
    · simp only [if_pos c1] at hJ
      refine m_iconst (v := 1) dX11_isLet_15 (by decide) ?_
      refine m_goto (tgt := 20) dX11_isLet_16 (by decide) ?_
      exact hJ
set_option maxHeartbeats 4000000 in
set_option maxRecDepth 100000 in
theorem h11_acts_40 {d : Nat} {Th : mT} {Q : mM → Prop} {a0 : Nat} {x1 : Int32} {x2 : Int32} {x3 : Int32} {x5 : Int32} {x6 : Int32} {x7 : Int32} {x8 : Int32} {x9 : Int32} {x10 : Int32} {x11 : Int32} {x12 : Int32} {M : mM} (h : if 5 ≤ x12 then (Q M) else (P11_isFree d Th x8 M (fun (v2 : Int32) (M1 : mM) => if v2 = 0 then (if x12 ≤ 0 then (H11_acts_89 (d + 1) Th Q a0 x1 x2 x3 x5 x6 x7 x8 x9 x10 x11 x12 M1) else (H11_acts_40 (d + 1) Th Q a0 x1 x2 x3 x5 x6 x7 x8 x9 x10 x11 (x12 + 1) M1)) else (Th.2.2 a0 = some (.inl 11) ∧ (P11_canDo d Th a0 x8 x9 x12 M1 (fun (v4 : Int32) (M3 : mM) => if v4 = 0 then (H11_acts_40 (d + 1) Th Q a0 x1 x2 x3 x5 x6 x7 x8 x9 x10 x11 (x12 + 1) M3) else (P11_isLet d Th a0 x12 x5 M3 (fun (v7 : Int32) (M6 : mM) => if v7 = 0 then (H11_acts_40 (d + 1) Th Q a0 x1 x2 x3 x5 x6 x7 x8 x9 x10 x11 (x12 + 1) M6) else (H11_acts_89 (d + 1) Th Q a0 x1 x2 x3 x5 x6 x7 x8 x9 x10 x11 x12 M6))))))))) : H11_acts_40 (d + 1) Th Q a0 x1 x2 x3 x5 x6 x7 x8 x9 x10 x11 x12 M := by
  show m_W (d + 1) 0 0 yX11_acts cX11_acts 15 none (m_qv Th Q) 40 [(0, .ref a0), (1, .int x1), (2, .int x2), (3, .int x3), (5, .int x5), (6, .int x6), (7, .int x7), (8, .int x8), (9, .int x9), (10, .int x10), (11, .int x11), (12, .int x12)] [] Th M 0 0
  refine m_iload dX11_acts_40 11 rfl ?_
  refine m_iconst (v := 5) dX11_acts_42 (by decide) ?_
  refine m_icmp_ge (tgt := 186) dX11_acts_43 (by decide) (fun c1 => ?_) (fun c1 => ?_)
  · rw [if_pos c1] at h
    exact m_return dX11_acts_186 rfl ⟨rfl, rfl, h⟩
  · rw [if_neg c1] at h
    refine m_iload dX11_acts_46 7 rfl ?_
    refine m_invS (As := [.int x8]) (d' := d) (mc' := 0) (ms' := 0) (rest := []) i_11_isFree s_11_isFree l_X11_393 dX11_acts_48 rfl rfl (Nat.le_of_ble_eq_true rfl) (Nat.le_refl _) ⟨Nat.le_refl _, Nat.le_refl _⟩ (m_Ci h (fun v2 M1 h => ?_))
    show m_W (d + 1) 0 0 yX11_acts cX11_acts 15 none (m_qv Th Q) 51 [(0, .ref a0), (1, .int x1), (2, .int x2), (3, .int x3), (5, .int x5), (6, .int x6), (7, .int x7), (8, .int x8), (9, .int x9), (10, .int x10), (11, .int x11), (12, .int x12)] [.int v2] Th M1 0 0
    refine m_if_eq (tgt := 81) dX11_acts_51 (by decide) (fun c1 => ?_) (fun c1 => ?_)
    · rw [if_pos c1] at h
      refine m_iload dX11_acts_81 11 rfl ?_
      refine m_if_le (tgt := 89) dX11_acts_83 (by decide) (fun c1 => ?_) (fun c1 => ?_)
      · rw [if_pos c1] at h
        exact h
      · rw [if_neg c1] at h
        refine m_goto (tgt := 180) dX11_acts_86 (by decide) ?_
        refine m_iinc (v := x12 + 1) (lv' := [(12, .int (x12 + 1)), (0, .ref a0), (1, .int x1), (2, .int x2), (3, .int x3), (5, .int x5), (6, .int x6), (7, .int x7), (8, .int x8), (9, .int x9), (10, .int x10), (11, .int x11)]) dX11_acts_180 11 rfl rfl (by decide) rfl ?_
        refine m_goto (tgt := 40) dX11_acts_183 (by decide) ?_
        exact m_sub [1, 2, 3, 4, 5, 6, 7, 8, 9, 10, 11, 0] rfl h
    · rw [if_neg c1] at h
      refine m_aload_n dX11_acts_54 rfl 0 rfl ?_
      refine m_iload dX11_acts_55 7 rfl ?_
      refine m_iload dX11_acts_57 8 rfl ?_
      refine m_iload dX11_acts_59 11 rfl ?_
      obtain ⟨q5, h⟩ := h
      refine m_invV (ci := 11) (As := [.int x8, .int x9, .int x12]) (d' := d) (mc' := 0) (ms' := 0) (rest := []) i_11_canDo v_11_canDo t_11_canDo l_X11_396 ⟨_, _, rfl⟩ dX11_acts_61 rfl rfl q5 (Nat.le_of_ble_eq_true rfl) (Nat.le_refl _) ⟨Nat.le_refl _, Nat.le_refl _⟩ (m_Ci h (fun v4 M3 h => ?_))
      show m_W (d + 1) 0 0 yX11_acts cX11_acts 15 none (m_qv Th Q) 64 [(0, .ref a0), (1, .int x1), (2, .int x2), (3, .int x3), (5, .int x5), (6, .int x6), (7, .int x7), (8, .int x8), (9, .int x9), (10, .int x10), (11, .int x11), (12, .int x12)] [.int v4] Th M3 0 0
      refine m_if_eq (tgt := 180) dX11_acts_64 (by decide) (fun c1 => ?_) (fun c1 => ?_)
      · rw [if_pos c1] at h
        refine m_iinc (v := x12 + 1) (lv' := [(12, .int (x12 + 1)), (0, .ref a0), (1, .int x1), (2, .int x2), (3, .int x3), (5, .int x5), (6, .int x6), (7, .int x7), (8, .int x8), (9, .int x9), (10, .int x10), (11, .int x11)]) dX11_acts_180 11 rfl rfl (by decide) rfl ?_
        refine m_goto (tgt := 40) dX11_acts_183 (by decide) ?_
        exact m_sub [1, 2, 3, 4, 5, 6, 7, 8, 9, 10, 11, 0] rfl h
      · rw [if_neg c1] at h
        refine m_aload_n dX11_acts_67 rfl 0 rfl ?_
        refine m_iload dX11_acts_68 11 rfl ?_
        refine m_iload dX11_acts_70 4 rfl ?_
        refine m_invV (ci := 11) (As := [.int x12, .int x5]) (d' := d) (mc' := 0) (ms' := 0) (rest := []) i_11_isLet v_11_isLet t_11_isLet l_X11_399 ⟨_, _, rfl⟩ dX11_acts_72 rfl rfl q5 (Nat.le_of_ble_eq_true rfl) (Nat.le_refl _) ⟨Nat.le_refl _, Nat.le_refl _⟩ (m_Ci h (fun v7 M6 h => ?_))
        show m_W (d + 1) 0 0 yX11_acts cX11_acts 15 none (m_qv Th Q) 75 [(0, .ref a0), (1, .int x1), (2, .int x2), (3, .int x3), (5, .int x5), (6, .int x6), (7, .int x7), (8, .int x8), (9, .int x9), (10, .int x10), (11, .int x11), (12, .int x12)] [.int v7] Th M6 0 0
        refine m_if_ne (tgt := 89) dX11_acts_75 (by decide) (fun c1 => ?_) (fun c1 => ?_)
        · rw [if_neg c1] at h
          exact h
        · rw [if_pos c1] at h
          refine m_goto (tgt := 180) dX11_acts_78 (by decide) ?_
          refine m_iinc (v := x12 + 1) (lv' := [(12, .int (x12 + 1)), (0, .ref a0), (1, .int x1), (2, .int x2), (3, .int x3), (5, .int x5), (6, .int x6), (7, .int x7), (8, .int x8), (9, .int x9), (10, .int x10), (11, .int x11)]) dX11_acts_180 11 rfl rfl (by decide) rfl ?_
          refine m_goto (tgt := 40) dX11_acts_183 (by decide) ?_
          exact m_sub [1, 2, 3, 4, 5, 6, 7, 8, 9, 10, 11, 0] rfl h
set_option maxHeartbeats 4000000 in
set_option maxRecDepth 100000 in
theorem h11_acts_89 {d : Nat} {Th : mT} {Q : mM → Prop} {a0 : Nat} {x1 : Int32} {x2 : Int32} {x3 : Int32} {x5 : Int32} {x6 : Int32} {x7 : Int32} {x8 : Int32} {x9 : Int32} {x10 : Int32} {x11 : Int32} {x12 : Int32} {M : mM} (h : Th.2.2 a0 = some (.inl 11) ∧ (P11_xDoes d Th a0 x1 x8 x12 M (fun M1 : mM => P11_yDoes d Th a0 x2 x9 x7 M1 (fun M4 : mM => P11_behind d Th a0 x3 x8 x9 x6 M4 (fun (v7 : Int64) (M6 : mM) => if x6 = 0 then (if x11 = 0 then (H11_acts_146 (d + 1) Th Q a0 x1 x2 x3 x5 x6 x7 x8 x9 x10 x12 v7 M6) else (∃ r8 : Nat, M6.2.2 a0 47 = some r8 ∧ (m_ok Th r8 .long x10 ∧ (if 0 < (lg_cmp v7 (((M6).2.1 r8 (Int32.toNatClampNeg x10)))) then (H11_acts_146 (d + 1) Th Q a0 x1 x2 x3 x5 x6 x7 x8 x9 x10 x12 v7 M6) else (H11_acts_40 (d + 1) Th Q a0 x1 x2 x3 x5 x6 x7 x8 x9 x10 x11 (x12 + 1) M6))))) else (H11_acts_40 (d + 1) Th Q a0 x1 x2 x3 x5 x6 x7 x8 x9 x10 x11 (x12 + 1) M6)))))) : H11_acts_89 (d + 1) Th Q a0 x1 x2 x3 x5 x6 x7 x8 x9 x10 x11 x12 M := by
  show m_W (d + 1) 0 0 yX11_acts cX11_acts 15 none (m_qv Th Q) 89 [(0, .ref a0), (1, .int x1), (2, .int x2), (3, .int x3), (5, .int x5), (6, .int x6), (7, .int x7), (8, .int x8), (9, .int x9), (10, .int x10), (11, .int x11), (12, .int x12)] [] Th M 0 0
  refine m_aload_n dX11_acts_89 rfl 0 rfl ?_
  refine m_iload_n dX11_acts_90 rfl 1 rfl ?_
  refine m_iload dX11_acts_91 7 rfl ?_
  refine m_iload dX11_acts_93 11 rfl ?_
  obtain ⟨q3, h⟩ := h
  refine m_invV (ci := 11) (As := [.int x1, .int x8, .int x12]) (d' := d) (mc' := 0) (ms' := 0) (rest := []) i_11_xDoes v_11_xDoes t_11_xDoes l_X11_402 ⟨_, _, rfl⟩ dX11_acts_95 rfl rfl q3 (Nat.le_of_ble_eq_true rfl) (Nat.le_refl _) ⟨Nat.le_refl _, Nat.le_refl _⟩ (m_Cv h (fun M1 h => ?_))
  show m_W (d + 1) 0 0 yX11_acts cX11_acts 15 none (m_qv Th Q) 98 [(0, .ref a0), (1, .int x1), (2, .int x2), (3, .int x3), (5, .int x5), (6, .int x6), (7, .int x7), (8, .int x8), (9, .int x9), (10, .int x10), (11, .int x11), (12, .int x12)] [] Th M1 0 0
  refine m_aload_n dX11_acts_98 rfl 0 rfl ?_
  refine m_iload_n dX11_acts_99 rfl 2 rfl ?_
  refine m_iload dX11_acts_100 8 rfl ?_
  refine m_iload dX11_acts_102 6 rfl ?_
  refine m_invV (ci := 11) (As := [.int x2, .int x9, .int x7]) (d' := d) (mc' := 0) (ms' := 0) (rest := []) i_11_yDoes v_11_yDoes t_11_yDoes l_X11_405 ⟨_, _, rfl⟩ dX11_acts_104 rfl rfl q3 (Nat.le_of_ble_eq_true rfl) (Nat.le_refl _) ⟨Nat.le_refl _, Nat.le_refl _⟩ (m_Cv h (fun M4 h => ?_))
  show m_W (d + 1) 0 0 yX11_acts cX11_acts 15 none (m_qv Th Q) 107 [(0, .ref a0), (1, .int x1), (2, .int x2), (3, .int x3), (5, .int x5), (6, .int x6), (7, .int x7), (8, .int x8), (9, .int x9), (10, .int x10), (11, .int x11), (12, .int x12)] [] Th M4 0 0
  refine m_aload_n dX11_acts_107 rfl 0 rfl ?_
  refine m_iload_n dX11_acts_108 rfl 3 rfl ?_
  refine m_iload dX11_acts_109 7 rfl ?_
  refine m_iload dX11_acts_111 8 rfl ?_
  refine m_iload dX11_acts_113 5 rfl ?_
  refine m_invV (ci := 11) (As := [.int x3, .int x8, .int x9, .int x6]) (d' := d) (mc' := 0) (ms' := 0) (rest := []) i_11_behind v_11_behind t_11_behind l_X11_408 ⟨_, _, rfl⟩ dX11_acts_115 rfl rfl q3 (Nat.le_of_ble_eq_true rfl) (Nat.le_refl _) ⟨Nat.le_refl _, Nat.le_refl _⟩ (m_Cl h (fun v7 M6 h => ?_))
  show m_W (d + 1) 0 0 yX11_acts cX11_acts 15 none (m_qv Th Q) 118 [(0, .ref a0), (1, .int x1), (2, .int x2), (3, .int x3), (5, .int x5), (6, .int x6), (7, .int x7), (8, .int x8), (9, .int x9), (10, .int x10), (11, .int x11), (12, .int x12)] [.long v7] Th M6 0 0
  refine m_lstore (lv' := [(13, .long v7), (0, .ref a0), (1, .int x1), (2, .int x2), (3, .int x3), (5, .int x5), (6, .int x6), (7, .int x7), (8, .int x8), (9, .int x9), (10, .int x10), (11, .int x11), (12, .int x12)]) dX11_acts_118 (by decide) rfl ?_
  refine m_iload dX11_acts_120 6 rfl ?_
  refine m_if_ne (tgt := 180) dX11_acts_122 (by decide) (fun c1 => ?_) (fun c1 => ?_)
  · rw [if_neg c1] at h
    refine m_iinc (v := x12 + 1) (lv' := [(12, .int (x12 + 1)), (13, .long v7), (0, .ref a0), (1, .int x1), (2, .int x2), (3, .int x3), (5, .int x5), (6, .int x6), (7, .int x7), (8, .int x8), (9, .int x9), (10, .int x10), (11, .int x11)]) dX11_acts_180 12 rfl rfl (by decide) rfl ?_
    refine m_goto (tgt := 40) dX11_acts_183 (by decide) ?_
    exact m_sub [2, 3, 4, 5, 6, 7, 8, 9, 10, 11, 12, 0] rfl h
  · rw [if_pos c1] at h
    refine m_iload dX11_acts_125 11 rfl ?_
    refine m_if_eq (tgt := 146) dX11_acts_127 (by decide) (fun c1 => ?_) (fun c1 => ?_)
    · rw [if_pos c1] at h
      exact m_sub [1, 2, 3, 4, 5, 6, 7, 8, 9, 10, 12, 0] rfl h
    · rw [if_neg c1] at h
      refine m_lload dX11_acts_130 0 rfl ?_
      refine m_aload_n dX11_acts_132 rfl 1 rfl ?_
      obtain ⟨r8, q9, h⟩ := h
      refine m_getr f_X11_89 rfl dX11_acts_133 q3 q9 ?_
      refine m_iload dX11_acts_136 10 rfl ?_
      obtain ⟨q10, h⟩ := h
      refine m_lald dX11_acts_138 q10 ?_
      refine m_lcmp dX11_acts_139 ?_
      refine m_if_gt (tgt := 146) dX11_acts_140 (by decide) (fun c1 => ?_) (fun c1 => ?_)
      · rw [if_pos c1] at h
        exact m_sub [1, 2, 3, 4, 5, 6, 7, 8, 9, 10, 12, 0] rfl h
      · rw [if_neg c1] at h
        refine m_goto (tgt := 180) dX11_acts_143 (by decide) ?_
        refine m_iinc (v := x12 + 1) (lv' := [(12, .int (x12 + 1)), (13, .long v7), (0, .ref a0), (1, .int x1), (2, .int x2), (3, .int x3), (5, .int x5), (6, .int x6), (7, .int x7), (8, .int x8), (9, .int x9), (10, .int x10), (11, .int x11)]) dX11_acts_180 12 rfl rfl (by decide) rfl ?_
        refine m_goto (tgt := 40) dX11_acts_183 (by decide) ?_
        exact m_sub [2, 3, 4, 5, 6, 7, 8, 9, 10, 11, 12, 0] rfl h
set_option maxHeartbeats 4000000 in
set_option maxRecDepth 100000 in
theorem h11_acts_146 {d : Nat} {Th : mT} {Q : mM → Prop} {a0 : Nat} {x1 : Int32} {x2 : Int32} {x3 : Int32} {x5 : Int32} {x6 : Int32} {x7 : Int32} {x8 : Int32} {x9 : Int32} {x10 : Int32} {x12 : Int32} {l13 : Int64} {M : mM} (h : Th.2.2 a0 = some (.inl 11) ∧ (∃ r2 : Nat, M.2.2 a0 47 = some r2 ∧ (m_okw Th r2 .long x10 ∧ (∃ r5 : Nat, M.2.2 a0 48 = some r5 ∧ (P11_isFree d Th x8 (m_ul M r2 (Int32.toNatClampNeg x10) l13) (fun (v8 : Int32) (M7 : mM) => m_okw Th r5 .byte x10 ∧ (H11_acts_40 (d + 1) Th Q a0 x1 x2 x3 x5 x6 x7 x8 x9 x10 1 (x12 + 1) (m_ui M7 r5 (Int32.toNatClampNeg x10) (Int32.toInt8 (((if v8 = 0 then (-1) else x12) : Int32).toInt8.toInt32)).toInt32)))))))) : H11_acts_146 (d + 1) Th Q a0 x1 x2 x3 x5 x6 x7 x8 x9 x10 x12 l13 M := by
  show m_W (d + 1) 0 0 yX11_acts cX11_acts 15 none (m_qv Th Q) 146 [(0, .ref a0), (1, .int x1), (2, .int x2), (3, .int x3), (5, .int x5), (6, .int x6), (7, .int x7), (8, .int x8), (9, .int x9), (10, .int x10), (12, .int x12), (13, .long l13)] [] Th M 0 0
  refine m_iconst (v := 1) dX11_acts_146 (by decide) ?_
  refine m_istore (lv' := [(11, .int 1), (0, .ref a0), (1, .int x1), (2, .int x2), (3, .int x3), (5, .int x5), (6, .int x6), (7, .int x7), (8, .int x8), (9, .int x9), (10, .int x10), (12, .int x12), (13, .long l13)]) dX11_acts_147 (by decide) rfl ?_
  refine m_aload_n dX11_acts_149 rfl 1 rfl ?_
  obtain ⟨q1, h⟩ := h
  obtain ⟨r2, q3, h⟩ := h
  refine m_getr f_X11_89 rfl dX11_acts_150 q1 q3 ?_
  refine m_iload dX11_acts_153 10 rfl ?_
  refine m_lload dX11_acts_155 12 rfl ?_
  obtain ⟨q4, h⟩ := h
  refine m_last dX11_acts_157 q4 ?_
  refine m_aload_n dX11_acts_158 rfl 1 rfl ?_
  obtain ⟨r5, q6, h⟩ := h
  refine m_getr f_X11_92 rfl dX11_acts_159 q1 q6 ?_
  refine m_iload dX11_acts_162 10 rfl ?_
  refine m_iload dX11_acts_164 8 rfl ?_
  refine m_invS (As := [.int x8]) (d' := d) (mc' := 0) (ms' := 0) (rest := [.int x10, .ref r5]) i_11_isFree s_11_isFree l_X11_393 dX11_acts_166 rfl rfl (Nat.le_of_ble_eq_true rfl) (Nat.le_refl _) ⟨Nat.le_refl _, Nat.le_refl _⟩ (m_Ci h (fun v8 M7 h => ?_))
  show m_W (d + 1) 0 0 yX11_acts cX11_acts 15 none (m_qv Th Q) 169 [(11, .int 1), (0, .ref a0), (1, .int x1), (2, .int x2), (3, .int x3), (5, .int x5), (6, .int x6), (7, .int x7), (8, .int x8), (9, .int x9), (10, .int x10), (12, .int x12), (13, .long l13)] [.int v8, .int x10, .ref r5] Th M7 0 0
  have hJ : m_W (d + 1) 0 0 yX11_acts cX11_acts 15 none (m_qv Th Q) 178 [(11, .int 1), (0, .ref a0), (1, .int x1), (2, .int x2), (3, .int x3), (5, .int x5), (6, .int x6), (7, .int x7), (8, .int x8), (9, .int x9), (10, .int x10), (12, .int x12), (13, .long l13)] [.int ((if v8 = 0 then (-1) else x12)), .int x10, .ref r5] Th M7 0 0 := by
    refine m_i2b dX11_acts_178 ?_
    obtain ⟨q9, h⟩ := h
    refine m_bast dX11_acts_179 q9 ?_
    refine m_iinc (v := x12 + 1) (lv' := [(12, .int (x12 + 1)), (11, .int 1), (0, .ref a0), (1, .int x1), (2, .int x2), (3, .int x3), (5, .int x5), (6, .int x6), (7, .int x7), (8, .int x8), (9, .int x9), (10, .int x10), (13, .long l13)]) dX11_acts_180 11 rfl rfl (by decide) rfl ?_
    refine m_goto (tgt := 40) dX11_acts_183 (by decide) ?_
    exact m_sub [2, 3, 4, 5, 6, 7, 8, 9, 10, 11, 1, 0] rfl h
  refine m_if_eq (tgt := 177) dX11_acts_169 (by decide) (fun c1 => ?_) (fun c1 => ?_)
  · simp only [if_pos c1] at hJ
    refine m_iconst (v := (-1)) dX11_acts_177 (by decide) ?_
    exact hJ
  · simp only [if_neg c1] at hJ
    refine m_iload dX11_acts_172 11 rfl ?_
    refine m_goto (tgt := 178) dX11_acts_174 (by decide) ?_
    exact hJ
set_option maxHeartbeats 4000000 in
set_option maxRecDepth 100000 in
theorem e11_acts {d : Nat} {Th : mT} {Q : mM → Prop} {a0 : Nat} {x1 : Int32} {x2 : Int32} {x3 : Int32} {x4 : Int32} {x5 : Int32} {x6 : Int32} {M : mM} (h : ∀ xv1 : Int32, xv1 = (x4 - x4 / 3 * 3) → ∀ xv2 : Int32, xv2 = ((x4 / 3) / 80) → ∀ xv3 : Int32, xv3 = ((x4 / 3) - (x4 / 3) / 80 * 80) → ∀ xv4 : Int32, xv4 = ((25200 * x3) + x4) → H11_acts_40 (d + 1) Th Q a0 x1 x2 x3 x5 x6 xv1 xv2 xv3 xv4 0 0 M) : P11_acts (d + 1) Th a0 x1 x2 x3 x4 x5 x6 M Q := by
  refine m_C.of (by decide +kernel) (Nat.le_of_ble_eq_true rfl) ?_
  show m_W (d + 1) 0 0 yX11_acts cX11_acts 15 none (m_qv Th Q) 0 [(0, .ref a0), (1, .int x1), (2, .int x2), (3, .int x3), (4, .int x4), (5, .int x5), (6, .int x6)] [] Th M 0 0
  refine m_iload dX11_acts_0 4 rfl ?_
  refine m_iconst (v := 3) dX11_acts_2 (by decide) ?_
  refine m_irem dX11_acts_3 (by decide) ?_
  obtain ⟨xv1, e_xv1⟩ : ∃ xv1 : Int32, xv1 = (x4 - x4 / 3 * 3) := ⟨_, rfl⟩
  have h := h xv1 e_xv1
  rw [← e_xv1]
  refine m_istore (lv' := [(7, .int xv1), (0, .ref a0), (1, .int x1), (2, .int x2), (3, .int x3), (4, .int x4), (5, .int x5), (6, .int x6)]) dX11_acts_4 (by decide) rfl ?_
  refine m_iload dX11_acts_6 5 rfl ?_
  refine m_iconst (v := 3) dX11_acts_8 (by decide) ?_
  refine m_idiv dX11_acts_9 (by decide) ?_
  refine m_bipush (v := 80) dX11_acts_10 (by decide) ?_
  refine m_idiv dX11_acts_12 (by decide) ?_
  obtain ⟨xv2, e_xv2⟩ : ∃ xv2 : Int32, xv2 = ((x4 / 3) / 80) := ⟨_, rfl⟩
  have h := h xv2 e_xv2
  rw [← e_xv2]
  refine m_istore (lv' := [(8, .int xv2), (7, .int xv1), (0, .ref a0), (1, .int x1), (2, .int x2), (3, .int x3), (4, .int x4), (5, .int x5), (6, .int x6)]) dX11_acts_13 (by decide) rfl ?_
  refine m_iload dX11_acts_15 6 rfl ?_
  refine m_iconst (v := 3) dX11_acts_17 (by decide) ?_
  refine m_idiv dX11_acts_18 (by decide) ?_
  refine m_bipush (v := 80) dX11_acts_19 (by decide) ?_
  refine m_irem dX11_acts_21 (by decide) ?_
  obtain ⟨xv3, e_xv3⟩ : ∃ xv3 : Int32, xv3 = ((x4 / 3) - (x4 / 3) / 80 * 80) := ⟨_, rfl⟩
  have h := h xv3 e_xv3
  rw [← e_xv3]
  refine m_istore (lv' := [(9, .int xv3), (8, .int xv2), (7, .int xv1), (0, .ref a0), (1, .int x1), (2, .int x2), (3, .int x3), (4, .int x4), (5, .int x5), (6, .int x6)]) dX11_acts_22 (by decide) rfl ?_
  refine m_sipush (v := 25200) dX11_acts_24 (by decide) ?_
  refine m_iload_n dX11_acts_27 rfl 6 rfl ?_
  refine m_imul dX11_acts_28 ?_
  refine m_iload dX11_acts_29 7 rfl ?_
  refine m_iadd dX11_acts_31 ?_
  obtain ⟨xv4, e_xv4⟩ : ∃ xv4 : Int32, xv4 = ((25200 * x3) + x4) := ⟨_, rfl⟩
  have h := h xv4 e_xv4
  rw [← e_xv4]
  refine m_istore (lv' := [(10, .int xv4), (9, .int xv3), (8, .int xv2), (7, .int xv1), (0, .ref a0), (1, .int x1), (2, .int x2), (3, .int x3), (4, .int x4), (5, .int x5), (6, .int x6)]) dX11_acts_32 (by decide) rfl ?_
  refine m_iconst (v := 0) dX11_acts_34 (by decide) ?_
  refine m_istore (lv' := [(11, .int 0), (10, .int xv4), (9, .int xv3), (8, .int xv2), (7, .int xv1), (0, .ref a0), (1, .int x1), (2, .int x2), (3, .int x3), (4, .int x4), (5, .int x5), (6, .int x6)]) dX11_acts_35 (by decide) rfl ?_
  refine m_iconst (v := 0) dX11_acts_37 (by decide) ?_
  refine m_istore (lv' := [(12, .int 0), (11, .int 0), (10, .int xv4), (9, .int xv3), (8, .int xv2), (7, .int xv1), (0, .ref a0), (1, .int x1), (2, .int x2), (3, .int x3), (4, .int x4), (5, .int x5), (6, .int x6)]) dX11_acts_38 (by decide) rfl ?_
  exact m_sub [6, 7, 8, 9, 11, 12, 5, 4, 3, 2, 1, 0] rfl h
set_option maxHeartbeats 4000000 in
set_option maxRecDepth 100000 in
theorem h11_bestOf_9 {d : Nat} {Th : mT} {Q : Int64 → mM → Prop} {a0 : Nat} {x1 : Int32} {x2 : Int32} {x3 : Int32} {x4 : Int32} {x5 : Int32} {x6 : Int32} {x7 : Int32} {x8 : Int32} {M : mM} (h : if (25200 * (x3 + 1)) ≤ x8 then (Th.2.2 a0 = some (.inl 11) ∧ (∃ r2 : Nat, M.2.2 a0 46 = some r2 ∧ (P11_placeIn d Th x3 x4 x5 x6 M (fun (v5 : Int32) (M4 : mM) => m_okw Th r2 .boolean v5 ∧ (H11_bestOf_54 (d + 1) Th Q a0 x1 x2 x3 x4 x5 x6 x7 x3 (m_ui M4 r2 (Int32.toNatClampNeg v5) (1 &&& 1))))))) else (Th.2.2 a0 = some (.inl 11) ∧ (∃ r8 : Nat, M.2.2 a0 46 = some r8 ∧ (m_okw Th r8 .boolean x8 ∧ (H11_bestOf_9 (d + 1) Th Q a0 x1 x2 x3 x4 x5 x6 x7 (x8 + 1) (m_ui M r8 (Int32.toNatClampNeg x8) (0 &&& 1))))))) : H11_bestOf_9 (d + 1) Th Q a0 x1 x2 x3 x4 x5 x6 x7 x8 M := by
  show m_W (d + 1) 0 0 yX11_bestOf cX11_bestOf 10 (some .long) (m_ql Th Q) 9 [(0, .ref a0), (1, .int x1), (2, .int x2), (3, .int x3), (4, .int x4), (5, .int x5), (6, .int x6), (7, .int x7), (8, .int x8)] [] Th M 0 0
  refine m_iload dX11_bestOf_9 8 rfl ?_
  refine m_sipush (v := 25200) dX11_bestOf_11 (by decide) ?_
  refine m_iload_n dX11_bestOf_14 rfl 3 rfl ?_
  refine m_iconst (v := 1) dX11_bestOf_15 (by decide) ?_
  refine m_iadd dX11_bestOf_16 ?_
  refine m_imul dX11_bestOf_17 ?_
  refine m_icmp_ge (tgt := 35) dX11_bestOf_18 (by decide) (fun c1 => ?_) (fun c1 => ?_)
  · rw [if_pos c1] at h
    refine m_aload_n dX11_bestOf_35 rfl 0 rfl ?_
    obtain ⟨q1, h⟩ := h
    obtain ⟨r2, q3, h⟩ := h
    refine m_getr f_X11_85 rfl dX11_bestOf_36 q1 q3 ?_
    refine m_iload_n dX11_bestOf_39 rfl 3 rfl ?_
    refine m_iload dX11_bestOf_40 4 rfl ?_
    refine m_iload dX11_bestOf_42 5 rfl ?_
    refine m_iload dX11_bestOf_44 6 rfl ?_
    refine m_invS (As := [.int x3, .int x4, .int x5, .int x6]) (d' := d) (mc' := 0) (ms' := 0) (rest := [.ref r2]) i_11_placeIn s_11_placeIn l_X11_389 dX11_bestOf_46 rfl rfl (Nat.le_of_ble_eq_true rfl) (Nat.le_refl _) ⟨Nat.le_refl _, Nat.le_refl _⟩ (m_Ci h (fun v5 M4 h => ?_))
    show m_W (d + 1) 0 0 yX11_bestOf cX11_bestOf 10 (some .long) (m_ql Th Q) 49 [(0, .ref a0), (1, .int x1), (2, .int x2), (3, .int x3), (4, .int x4), (5, .int x5), (6, .int x6), (7, .int x7), (8, .int x8)] [.int v5, .ref r2] Th M4 0 0
    refine m_iconst (v := 1) dX11_bestOf_49 (by decide) ?_
    obtain ⟨q6, h⟩ := h
    refine m_zast dX11_bestOf_50 q6 ?_
    refine m_iload_n dX11_bestOf_51 rfl 3 rfl ?_
    refine m_istore (lv' := [(8, .int x3), (0, .ref a0), (1, .int x1), (2, .int x2), (3, .int x3), (4, .int x4), (5, .int x5), (6, .int x6), (7, .int x7)]) dX11_bestOf_52 (by decide) rfl ?_
    exact m_sub [1, 2, 3, 4, 5, 6, 7, 8, 0] rfl h
  · rw [if_neg c1] at h
    refine m_aload_n dX11_bestOf_21 rfl 0 rfl ?_
    obtain ⟨q7, h⟩ := h
    obtain ⟨r8, q9, h⟩ := h
    refine m_getr f_X11_85 rfl dX11_bestOf_22 q7 q9 ?_
    refine m_iload dX11_bestOf_25 8 rfl ?_
    refine m_iconst (v := 0) dX11_bestOf_27 (by decide) ?_
    obtain ⟨q10, h⟩ := h
    refine m_zast dX11_bestOf_28 q10 ?_
    refine m_iinc (v := x8 + 1) (lv' := [(8, .int (x8 + 1)), (0, .ref a0), (1, .int x1), (2, .int x2), (3, .int x3), (4, .int x4), (5, .int x5), (6, .int x6), (7, .int x7)]) dX11_bestOf_29 8 rfl rfl (by decide) rfl ?_
    refine m_goto (tgt := 9) dX11_bestOf_32 (by decide) ?_
    exact m_sub [1, 2, 3, 4, 5, 6, 7, 8, 0] rfl h
set_option maxHeartbeats 4000000 in
set_option maxRecDepth 100000 in
theorem h11_bestOf_54 {d : Nat} {Th : mT} {Q : Int64 → mM → Prop} {a0 : Nat} {x1 : Int32} {x2 : Int32} {x3 : Int32} {x4 : Int32} {x5 : Int32} {x6 : Int32} {x7 : Int32} {x8 : Int32} {M : mM} (h : if x8 ≤ 1 then (H11_bestOf_116 (d + 1) Th Q a0 x1 x2 x3 x4 x5 x6 x7 1 M) else (H11_bestOf_63 (d + 1) Th Q a0 x1 x2 x3 x4 x5 x6 x7 x8 0 M)) : H11_bestOf_54 (d + 1) Th Q a0 x1 x2 x3 x4 x5 x6 x7 x8 M := by
  show m_W (d + 1) 0 0 yX11_bestOf cX11_bestOf 10 (some .long) (m_ql Th Q) 54 [(0, .ref a0), (1, .int x1), (2, .int x2), (3, .int x3), (4, .int x4), (5, .int x5), (6, .int x6), (7, .int x7), (8, .int x8)] [] Th M 0 0
  refine m_iload dX11_bestOf_54 8 rfl ?_
  refine m_iconst (v := 1) dX11_bestOf_56 (by decide) ?_
  refine m_icmp_le (tgt := 113) dX11_bestOf_57 (by decide) (fun c1 => ?_) (fun c1 => ?_)
  · rw [if_pos c1] at h
    refine m_iconst (v := 1) dX11_bestOf_113 (by decide) ?_
    refine m_istore (lv' := [(8, .int 1), (0, .ref a0), (1, .int x1), (2, .int x2), (3, .int x3), (4, .int x4), (5, .int x5), (6, .int x6), (7, .int x7)]) dX11_bestOf_114 (by decide) rfl ?_
    exact m_sub [1, 2, 3, 4, 5, 6, 7, 8, 0] rfl h
  · rw [if_neg c1] at h
    refine m_iconst (v := 0) dX11_bestOf_60 (by decide) ?_
    refine m_istore (lv' := [(9, .int 0), (0, .ref a0), (1, .int x1), (2, .int x2), (3, .int x3), (4, .int x4), (5, .int x5), (6, .int x6), (7, .int x7), (8, .int x8)]) dX11_bestOf_61 (by decide) rfl ?_
    exact m_sub [1, 2, 3, 4, 5, 6, 7, 8, 9, 0] rfl h
set_option maxHeartbeats 4000000 in
set_option maxRecDepth 100000 in
theorem h11_bestOf_63 {d : Nat} {Th : mT} {Q : Int64 → mM → Prop} {a0 : Nat} {x1 : Int32} {x2 : Int32} {x3 : Int32} {x4 : Int32} {x5 : Int32} {x6 : Int32} {x7 : Int32} {x8 : Int32} {x9 : Int32} {M : mM} (h : if 25200 ≤ x9 then (H11_bestOf_54 (d + 1) Th Q a0 x1 x2 x3 x4 x5 x6 x7 (x8 + (-1)) M) else (Th.2.2 a0 = some (.inl 11) ∧ (∃ r2 : Nat, M.2.2 a0 46 = some r2 ∧ (m_ok Th r2 .boolean (((25200 * x8) + x9)) ∧ (if ((M).1 r2 (Int32.toNatClampNeg (((25200 * x8) + x9)))) = 0 then (H11_bestOf_63 (d + 1) Th Q a0 x1 x2 x3 x4 x5 x6 x7 x8 (x9 + 1) M) else (P11_acts d Th a0 x1 x2 x8 x9 x7 1 M (fun M5 : mM => H11_bestOf_63 (d + 1) Th Q a0 x1 x2 x3 x4 x5 x6 x7 x8 (x9 + 1) M5))))))) : H11_bestOf_63 (d + 1) Th Q a0 x1 x2 x3 x4 x5 x6 x7 x8 x9 M := by
  show m_W (d + 1) 0 0 yX11_bestOf cX11_bestOf 10 (some .long) (m_ql Th Q) 63 [(0, .ref a0), (1, .int x1), (2, .int x2), (3, .int x3), (4, .int x4), (5, .int x5), (6, .int x6), (7, .int x7), (8, .int x8), (9, .int x9)] [] Th M 0 0
  refine m_iload dX11_bestOf_63 9 rfl ?_
  refine m_sipush (v := 25200) dX11_bestOf_65 (by decide) ?_
  refine m_icmp_ge (tgt := 107) dX11_bestOf_68 (by decide) (fun c1 => ?_) (fun c1 => ?_)
  · rw [if_pos c1] at h
    refine m_iinc (v := x8 + (-1)) (lv' := [(8, .int (x8 + (-1))), (0, .ref a0), (1, .int x1), (2, .int x2), (3, .int x3), (4, .int x4), (5, .int x5), (6, .int x6), (7, .int x7), (9, .int x9)]) dX11_bestOf_107 8 rfl rfl (by decide) rfl ?_
    refine m_goto (tgt := 54) dX11_bestOf_110 (by decide) ?_
    exact m_sub [1, 2, 3, 4, 5, 6, 7, 8, 0] rfl h
  · rw [if_neg c1] at h
    refine m_aload_n dX11_bestOf_71 rfl 0 rfl ?_
    obtain ⟨q1, h⟩ := h
    obtain ⟨r2, q3, h⟩ := h
    refine m_getr f_X11_85 rfl dX11_bestOf_72 q1 q3 ?_
    refine m_sipush (v := 25200) dX11_bestOf_75 (by decide) ?_
    refine m_iload dX11_bestOf_78 8 rfl ?_
    refine m_imul dX11_bestOf_80 ?_
    refine m_iload dX11_bestOf_81 9 rfl ?_
    refine m_iadd dX11_bestOf_83 ?_
    obtain ⟨q4, h⟩ := h
    refine m_zald dX11_bestOf_84 q4 ?_
    refine m_if_eq (tgt := 101) dX11_bestOf_85 (by decide) (fun c1 => ?_) (fun c1 => ?_)
    · rw [if_pos c1] at h
      refine m_iinc (v := x9 + 1) (lv' := [(9, .int (x9 + 1)), (0, .ref a0), (1, .int x1), (2, .int x2), (3, .int x3), (4, .int x4), (5, .int x5), (6, .int x6), (7, .int x7), (8, .int x8)]) dX11_bestOf_101 9 rfl rfl (by decide) rfl ?_
      refine m_goto (tgt := 63) dX11_bestOf_104 (by decide) ?_
      exact m_sub [1, 2, 3, 4, 5, 6, 7, 8, 9, 0] rfl h
    · rw [if_neg c1] at h
      refine m_aload_n dX11_bestOf_88 rfl 0 rfl ?_
      refine m_iload_n dX11_bestOf_89 rfl 1 rfl ?_
      refine m_iload_n dX11_bestOf_90 rfl 2 rfl ?_
      refine m_iload dX11_bestOf_91 8 rfl ?_
      refine m_iload dX11_bestOf_93 9 rfl ?_
      refine m_iload dX11_bestOf_95 7 rfl ?_
      refine m_iconst (v := 1) dX11_bestOf_97 (by decide) ?_
      refine m_invV (ci := 11) (As := [.int x1, .int x2, .int x8, .int x9, .int x7, .int 1]) (d' := d) (mc' := 0) (ms' := 0) (rest := []) i_11_acts v_11_acts t_11_acts l_X11_412 ⟨_, _, rfl⟩ dX11_bestOf_98 rfl rfl q1 (Nat.le_of_ble_eq_true rfl) (Nat.le_refl _) ⟨Nat.le_refl _, Nat.le_refl _⟩ (m_Cv h (fun M5 h => ?_))
      show m_W (d + 1) 0 0 yX11_bestOf cX11_bestOf 10 (some .long) (m_ql Th Q) 101 [(0, .ref a0), (1, .int x1), (2, .int x2), (3, .int x3), (4, .int x4), (5, .int x5), (6, .int x6), (7, .int x7), (8, .int x8), (9, .int x9)] [] Th M5 0 0
      refine m_iinc (v := x9 + 1) (lv' := [(9, .int (x9 + 1)), (0, .ref a0), (1, .int x1), (2, .int x2), (3, .int x3), (4, .int x4), (5, .int x5), (6, .int x6), (7, .int x7), (8, .int x8)]) dX11_bestOf_101 9 rfl rfl (by decide) rfl ?_
      refine m_goto (tgt := 63) dX11_bestOf_104 (by decide) ?_
      exact m_sub [1, 2, 3, 4, 5, 6, 7, 8, 9, 0] rfl h
set_option maxHeartbeats 4000000 in
set_option maxRecDepth 100000 in
theorem h11_bestOf_116 {d : Nat} {Th : mT} {Q : Int64 → mM → Prop} {a0 : Nat} {x1 : Int32} {x2 : Int32} {x3 : Int32} {x4 : Int32} {x5 : Int32} {x6 : Int32} {x7 : Int32} {x8 : Int32} {M : mM} (h : if x3 < x8 then (Th.2.2 a0 = some (.inl 11) ∧ (∃ r2 : Nat, M.2.2 a0 47 = some r2 ∧ (P11_placeIn d Th x3 x4 x5 x6 M (fun (v5 : Int32) (M4 : mM) => m_ok Th r2 .long v5 ∧ (Q (((M4).2.1 r2 (Int32.toNatClampNeg v5))) M4))))) else (H11_bestOf_125 (d + 1) Th Q a0 x1 x2 x3 x4 x5 x6 x7 x8 0 M)) : H11_bestOf_116 (d + 1) Th Q a0 x1 x2 x3 x4 x5 x6 x7 x8 M := by
  show m_W (d + 1) 0 0 yX11_bestOf cX11_bestOf 10 (some .long) (m_ql Th Q) 116 [(0, .ref a0), (1, .int x1), (2, .int x2), (3, .int x3), (4, .int x4), (5, .int x5), (6, .int x6), (7, .int x7), (8, .int x8)] [] Th M 0 0
  refine m_iload dX11_bestOf_116 8 rfl ?_
  refine m_iload_n dX11_bestOf_118 rfl 3 rfl ?_
  refine m_icmp_gt (tgt := 175) dX11_bestOf_119 (by decide) (fun c1 => ?_) (fun c1 => ?_)
  · rw [if_pos c1] at h
    refine m_aload_n dX11_bestOf_175 rfl 0 rfl ?_
    obtain ⟨q1, h⟩ := h
    obtain ⟨r2, q3, h⟩ := h
    refine m_getr f_X11_89 rfl dX11_bestOf_176 q1 q3 ?_
    refine m_iload_n dX11_bestOf_179 rfl 3 rfl ?_
    refine m_iload dX11_bestOf_180 4 rfl ?_
    refine m_iload dX11_bestOf_182 5 rfl ?_
    refine m_iload dX11_bestOf_184 6 rfl ?_
    refine m_invS (As := [.int x3, .int x4, .int x5, .int x6]) (d' := d) (mc' := 0) (ms' := 0) (rest := [.ref r2]) i_11_placeIn s_11_placeIn l_X11_389 dX11_bestOf_186 rfl rfl (Nat.le_of_ble_eq_true rfl) (Nat.le_refl _) ⟨Nat.le_refl _, Nat.le_refl _⟩ (m_Ci h (fun v5 M4 h => ?_))
    show m_W (d + 1) 0 0 yX11_bestOf cX11_bestOf 10 (some .long) (m_ql Th Q) 189 [(0, .ref a0), (1, .int x1), (2, .int x2), (3, .int x3), (4, .int x4), (5, .int x5), (6, .int x6), (7, .int x7), (8, .int x8)] [.int v5, .ref r2] Th M4 0 0
    obtain ⟨q6, h⟩ := h
    refine m_lald dX11_bestOf_189 q6 ?_
    exact m_lreturn dX11_bestOf_190 rfl ⟨rfl, _, rfl, h⟩
  · rw [if_neg c1] at h
    refine m_iconst (v := 0) dX11_bestOf_122 (by decide) ?_
    refine m_istore (lv' := [(9, .int 0), (0, .ref a0), (1, .int x1), (2, .int x2), (3, .int x3), (4, .int x4), (5, .int x5), (6, .int x6), (7, .int x7), (8, .int x8)]) dX11_bestOf_123 (by decide) rfl ?_
    exact m_sub [1, 2, 3, 4, 5, 6, 7, 8, 9, 0] rfl h
set_option maxHeartbeats 4000000 in
set_option maxRecDepth 100000 in
theorem h11_bestOf_125 {d : Nat} {Th : mT} {Q : Int64 → mM → Prop} {a0 : Nat} {x1 : Int32} {x2 : Int32} {x3 : Int32} {x4 : Int32} {x5 : Int32} {x6 : Int32} {x7 : Int32} {x8 : Int32} {x9 : Int32} {M : mM} (h : if 25200 ≤ x9 then (H11_bestOf_116 (d + 1) Th Q a0 x1 x2 x3 x4 x5 x6 x7 (x8 + 1) M) else (Th.2.2 a0 = some (.inl 11) ∧ (∃ r2 : Nat, M.2.2 a0 46 = some r2 ∧ (m_ok Th r2 .boolean (((25200 * x8) + x9)) ∧ (if ((M).1 r2 (Int32.toNatClampNeg (((25200 * x8) + x9)))) = 0 then (H11_bestOf_125 (d + 1) Th Q a0 x1 x2 x3 x4 x5 x6 x7 x8 (x9 + 1) M) else (P11_acts d Th a0 x1 x2 x8 x9 x7 0 M (fun M5 : mM => H11_bestOf_125 (d + 1) Th Q a0 x1 x2 x3 x4 x5 x6 x7 x8 (x9 + 1) M5))))))) : H11_bestOf_125 (d + 1) Th Q a0 x1 x2 x3 x4 x5 x6 x7 x8 x9 M := by
  show m_W (d + 1) 0 0 yX11_bestOf cX11_bestOf 10 (some .long) (m_ql Th Q) 125 [(0, .ref a0), (1, .int x1), (2, .int x2), (3, .int x3), (4, .int x4), (5, .int x5), (6, .int x6), (7, .int x7), (8, .int x8), (9, .int x9)] [] Th M 0 0
  refine m_iload dX11_bestOf_125 9 rfl ?_
  refine m_sipush (v := 25200) dX11_bestOf_127 (by decide) ?_
  refine m_icmp_ge (tgt := 169) dX11_bestOf_130 (by decide) (fun c1 => ?_) (fun c1 => ?_)
  · rw [if_pos c1] at h
    refine m_iinc (v := x8 + 1) (lv' := [(8, .int (x8 + 1)), (0, .ref a0), (1, .int x1), (2, .int x2), (3, .int x3), (4, .int x4), (5, .int x5), (6, .int x6), (7, .int x7), (9, .int x9)]) dX11_bestOf_169 8 rfl rfl (by decide) rfl ?_
    refine m_goto (tgt := 116) dX11_bestOf_172 (by decide) ?_
    exact m_sub [1, 2, 3, 4, 5, 6, 7, 8, 0] rfl h
  · rw [if_neg c1] at h
    refine m_aload_n dX11_bestOf_133 rfl 0 rfl ?_
    obtain ⟨q1, h⟩ := h
    obtain ⟨r2, q3, h⟩ := h
    refine m_getr f_X11_85 rfl dX11_bestOf_134 q1 q3 ?_
    refine m_sipush (v := 25200) dX11_bestOf_137 (by decide) ?_
    refine m_iload dX11_bestOf_140 8 rfl ?_
    refine m_imul dX11_bestOf_142 ?_
    refine m_iload dX11_bestOf_143 9 rfl ?_
    refine m_iadd dX11_bestOf_145 ?_
    obtain ⟨q4, h⟩ := h
    refine m_zald dX11_bestOf_146 q4 ?_
    refine m_if_eq (tgt := 163) dX11_bestOf_147 (by decide) (fun c1 => ?_) (fun c1 => ?_)
    · rw [if_pos c1] at h
      refine m_iinc (v := x9 + 1) (lv' := [(9, .int (x9 + 1)), (0, .ref a0), (1, .int x1), (2, .int x2), (3, .int x3), (4, .int x4), (5, .int x5), (6, .int x6), (7, .int x7), (8, .int x8)]) dX11_bestOf_163 9 rfl rfl (by decide) rfl ?_
      refine m_goto (tgt := 125) dX11_bestOf_166 (by decide) ?_
      exact m_sub [1, 2, 3, 4, 5, 6, 7, 8, 9, 0] rfl h
    · rw [if_neg c1] at h
      refine m_aload_n dX11_bestOf_150 rfl 0 rfl ?_
      refine m_iload_n dX11_bestOf_151 rfl 1 rfl ?_
      refine m_iload_n dX11_bestOf_152 rfl 2 rfl ?_
      refine m_iload dX11_bestOf_153 8 rfl ?_
      refine m_iload dX11_bestOf_155 9 rfl ?_
      refine m_iload dX11_bestOf_157 7 rfl ?_
      refine m_iconst (v := 0) dX11_bestOf_159 (by decide) ?_
      refine m_invV (ci := 11) (As := [.int x1, .int x2, .int x8, .int x9, .int x7, .int 0]) (d' := d) (mc' := 0) (ms' := 0) (rest := []) i_11_acts v_11_acts t_11_acts l_X11_412 ⟨_, _, rfl⟩ dX11_bestOf_160 rfl rfl q1 (Nat.le_of_ble_eq_true rfl) (Nat.le_refl _) ⟨Nat.le_refl _, Nat.le_refl _⟩ (m_Cv h (fun M5 h => ?_))
      show m_W (d + 1) 0 0 yX11_bestOf cX11_bestOf 10 (some .long) (m_ql Th Q) 163 [(0, .ref a0), (1, .int x1), (2, .int x2), (3, .int x3), (4, .int x4), (5, .int x5), (6, .int x6), (7, .int x7), (8, .int x8), (9, .int x9)] [] Th M5 0 0
      refine m_iinc (v := x9 + 1) (lv' := [(9, .int (x9 + 1)), (0, .ref a0), (1, .int x1), (2, .int x2), (3, .int x3), (4, .int x4), (5, .int x5), (6, .int x6), (7, .int x7), (8, .int x8)]) dX11_bestOf_163 9 rfl rfl (by decide) rfl ?_
      refine m_goto (tgt := 125) dX11_bestOf_166 (by decide) ?_
      exact m_sub [1, 2, 3, 4, 5, 6, 7, 8, 9, 0] rfl h
set_option maxHeartbeats 4000000 in
set_option maxRecDepth 100000 in
theorem e11_bestOf {d : Nat} {Th : mT} {Q : Int64 → mM → Prop} {a0 : Nat} {x1 : Int32} {x2 : Int32} {x3 : Int32} {x4 : Int32} {x5 : Int32} {x6 : Int32} {x7 : Int32} {M : mM} (h : if x3 = 0 then (Q 1 M) else (H11_bestOf_9 (d + 1) Th Q a0 x1 x2 x3 x4 x5 x6 x7 0 M)) : P11_bestOf (d + 1) Th a0 x1 x2 x3 x4 x5 x6 x7 M Q := by
  refine m_C.of (by decide +kernel) (Nat.le_of_ble_eq_true rfl) ?_
  show m_W (d + 1) 0 0 yX11_bestOf cX11_bestOf 10 (some .long) (m_ql Th Q) 0 [(0, .ref a0), (1, .int x1), (2, .int x2), (3, .int x3), (4, .int x4), (5, .int x5), (6, .int x6), (7, .int x7)] [] Th M 0 0
  refine m_iload_n dX11_bestOf_0 rfl 3 rfl ?_
  refine m_if_ne (tgt := 6) dX11_bestOf_1 (by decide) (fun c1 => ?_) (fun c1 => ?_)
  · rw [if_neg c1] at h
    refine m_iconst (v := 0) dX11_bestOf_6 (by decide) ?_
    refine m_istore (lv' := [(8, .int 0), (0, .ref a0), (1, .int x1), (2, .int x2), (3, .int x3), (4, .int x4), (5, .int x5), (6, .int x6), (7, .int x7)]) dX11_bestOf_7 (by decide) rfl ?_
    exact m_sub [1, 2, 3, 4, 5, 6, 7, 8, 0] rfl h
  · rw [if_pos c1] at h
    refine m_lconst (v := 1) dX11_bestOf_4 (by decide) ?_
    exact m_lreturn dX11_bestOf_5 rfl ⟨rfl, _, rfl, h⟩
set_option maxHeartbeats 4000000 in
set_option maxRecDepth 100000 in
theorem e11_best {d : Nat} {Th : mT} {Q : Int64 → mM → Prop} {a0 : Nat} {x1 : Int32} {x2 : Int32} {x3 : Int32} {x4 : Int32} {x5 : Int32} {x6 : Int32} {x7 : Int32} {M : mM} (h : Th.2.2 a0 = some (.inl 11) ∧ (P11_areTwo d Th a0 x1 x2 M (fun (v2 : Int32) (M1 : mM) => if v2 = 0 then (Q (-1) M1) else (P11_in d Th x3 0 10 M1 (fun (v5 : Int32) (M4 : mM) => if v5 = 0 then (Q (-1) M4) else (P11_in d Th x6 0 2 M4 (fun (v7 : Int32) (M6 : mM) => if v7 = 0 then (Q (-1) M6) else (P11_in d Th x7 0 1 M6 (fun (v9 : Int32) (M8 : mM) => if v9 = 0 then (Q (-1) M8) else (P11_takenX d Th a0 x4 M8 (fun (v11 : Int32) (M10 : mM) => P11_takenY d Th a0 x5 M10 (fun (v13 : Int32) (M12 : mM) => if v11 = (-1) then (Q (-1) M12) else (if v13 = (-1) then (Q (-1) M12) else (P11_bestOf d Th a0 x1 x2 x3 v11 v13 x6 0 M12 (fun (v15 : Int64) (M14 : mM) => if x7 = 0 then (Q v15 M14) else (if x3 = 0 then (Q (-1) M14) else (∃ r16 : Nat, M14.2.2 a0 48 = some r16 ∧ (P11_placeIn d Th x3 v11 v13 x6 M14 (fun (v19 : Int32) (M18 : mM) => m_ok Th r16 .byte v19 ∧ (Q ((((M18).1 r16 (Int32.toNatClampNeg v19)) : Int32).toInt64) M18)))))))))))))))))))) : P11_best (d + 1) Th a0 x1 x2 x3 x4 x5 x6 x7 M Q := by
  refine m_C.of (by decide +kernel) (Nat.le_of_ble_eq_true rfl) ?_
  show m_W (d + 1) 0 0 yX11_best cX11_best 12 (some .long) (m_ql Th Q) 0 [(0, .ref a0), (1, .int x1), (2, .int x2), (3, .int x3), (4, .int x4), (5, .int x5), (6, .int x6), (7, .int x7)] [] Th M 0 0
  refine m_aload_n dX11_best_0 rfl 0 rfl ?_
  refine m_iload_n dX11_best_1 rfl 1 rfl ?_
  refine m_iload_n dX11_best_2 rfl 2 rfl ?_
  obtain ⟨q3, h⟩ := h
  refine m_invV (ci := 11) (As := [.int x1, .int x2]) (d' := d) (mc' := 0) (ms' := 0) (rest := []) i_11_areTwo v_11_areTwo t_11_areTwo l_X11_323 ⟨_, _, rfl⟩ dX11_best_3 rfl rfl q3 (Nat.le_of_ble_eq_true rfl) (Nat.le_refl _) ⟨Nat.le_refl _, Nat.le_refl _⟩ (m_Ci h (fun v2 M1 h => ?_))
  show m_W (d + 1) 0 0 yX11_best cX11_best 12 (some .long) (m_ql Th Q) 6 [(0, .ref a0), (1, .int x1), (2, .int x2), (3, .int x3), (4, .int x4), (5, .int x5), (6, .int x6), (7, .int x7)] [.int v2] Th M1 0 0
  refine m_if_eq (tgt := 39) dX11_best_6 (by decide) (fun c1 => ?_) (fun c1 => ?_)
  · rw [if_pos c1] at h
    refine m_ldc2 k_X11_308 dX11_best_39 ?_
    exact m_lreturn dX11_best_42 rfl ⟨rfl, _, rfl, h⟩
  · rw [if_neg c1] at h
    refine m_iload_n dX11_best_9 rfl 3 rfl ?_
    refine m_iconst (v := 0) dX11_best_10 (by decide) ?_
    refine m_bipush (v := 10) dX11_best_11 (by decide) ?_
    refine m_invS (As := [.int x3, .int 0, .int 10]) (d' := d) (mc' := 0) (ms' := 0) (rest := []) i_11_in s_11_in l_X11_148 dX11_best_13 rfl rfl (Nat.le_of_ble_eq_true rfl) (Nat.le_refl _) ⟨Nat.le_refl _, Nat.le_refl _⟩ (m_Ci h (fun v5 M4 h => ?_))
    show m_W (d + 1) 0 0 yX11_best cX11_best 12 (some .long) (m_ql Th Q) 16 [(0, .ref a0), (1, .int x1), (2, .int x2), (3, .int x3), (4, .int x4), (5, .int x5), (6, .int x6), (7, .int x7)] [.int v5] Th M4 0 0
    refine m_if_eq (tgt := 39) dX11_best_16 (by decide) (fun c1 => ?_) (fun c1 => ?_)
    · rw [if_pos c1] at h
      refine m_ldc2 k_X11_308 dX11_best_39 ?_
      exact m_lreturn dX11_best_42 rfl ⟨rfl, _, rfl, h⟩
    · rw [if_neg c1] at h
      refine m_iload dX11_best_19 6 rfl ?_
      refine m_iconst (v := 0) dX11_best_21 (by decide) ?_
      refine m_iconst (v := 2) dX11_best_22 (by decide) ?_
      refine m_invS (As := [.int x6, .int 0, .int 2]) (d' := d) (mc' := 0) (ms' := 0) (rest := []) i_11_in s_11_in l_X11_148 dX11_best_23 rfl rfl (Nat.le_of_ble_eq_true rfl) (Nat.le_refl _) ⟨Nat.le_refl _, Nat.le_refl _⟩ (m_Ci h (fun v7 M6 h => ?_))
      show m_W (d + 1) 0 0 yX11_best cX11_best 12 (some .long) (m_ql Th Q) 26 [(0, .ref a0), (1, .int x1), (2, .int x2), (3, .int x3), (4, .int x4), (5, .int x5), (6, .int x6), (7, .int x7)] [.int v7] Th M6 0 0
      refine m_if_eq (tgt := 39) dX11_best_26 (by decide) (fun c1 => ?_) (fun c1 => ?_)
      · rw [if_pos c1] at h
        refine m_ldc2 k_X11_308 dX11_best_39 ?_
        exact m_lreturn dX11_best_42 rfl ⟨rfl, _, rfl, h⟩
      · rw [if_neg c1] at h
        refine m_iload dX11_best_29 7 rfl ?_
        refine m_iconst (v := 0) dX11_best_31 (by decide) ?_
        refine m_iconst (v := 1) dX11_best_32 (by decide) ?_
        refine m_invS (As := [.int x7, .int 0, .int 1]) (d' := d) (mc' := 0) (ms' := 0) (rest := []) i_11_in s_11_in l_X11_148 dX11_best_33 rfl rfl (Nat.le_of_ble_eq_true rfl) (Nat.le_refl _) ⟨Nat.le_refl _, Nat.le_refl _⟩ (m_Ci h (fun v9 M8 h => ?_))
        show m_W (d + 1) 0 0 yX11_best cX11_best 12 (some .long) (m_ql Th Q) 36 [(0, .ref a0), (1, .int x1), (2, .int x2), (3, .int x3), (4, .int x4), (5, .int x5), (6, .int x6), (7, .int x7)] [.int v9] Th M8 0 0
        refine m_if_ne (tgt := 43) dX11_best_36 (by decide) (fun c1 => ?_) (fun c1 => ?_)
        · rw [if_neg c1] at h
          refine m_aload_n dX11_best_43 rfl 0 rfl ?_
          refine m_iload dX11_best_44 4 rfl ?_
          refine m_invV (ci := 11) (As := [.int x4]) (d' := d) (mc' := 0) (ms' := 0) (rest := []) i_11_takenX v_11_takenX t_11_takenX l_X11_416 ⟨_, _, rfl⟩ dX11_best_46 rfl rfl q3 (Nat.le_of_ble_eq_true rfl) (Nat.le_refl _) ⟨Nat.le_refl _, Nat.le_refl _⟩ (m_Ci h (fun v11 M10 h => ?_))
          show m_W (d + 1) 0 0 yX11_best cX11_best 12 (some .long) (m_ql Th Q) 49 [(0, .ref a0), (1, .int x1), (2, .int x2), (3, .int x3), (4, .int x4), (5, .int x5), (6, .int x6), (7, .int x7)] [.int v11] Th M10 0 0
          refine m_istore (lv' := [(8, .int v11), (0, .ref a0), (1, .int x1), (2, .int x2), (3, .int x3), (4, .int x4), (5, .int x5), (6, .int x6), (7, .int x7)]) dX11_best_49 (by decide) rfl ?_
          refine m_aload_n dX11_best_51 rfl 1 rfl ?_
          refine m_iload dX11_best_52 6 rfl ?_
          refine m_invV (ci := 11) (As := [.int x5]) (d' := d) (mc' := 0) (ms' := 0) (rest := []) i_11_takenY v_11_takenY t_11_takenY l_X11_419 ⟨_, _, rfl⟩ dX11_best_54 rfl rfl q3 (Nat.le_of_ble_eq_true rfl) (Nat.le_refl _) ⟨Nat.le_refl _, Nat.le_refl _⟩ (m_Ci h (fun v13 M12 h => ?_))
          show m_W (d + 1) 0 0 yX11_best cX11_best 12 (some .long) (m_ql Th Q) 57 [(8, .int v11), (0, .ref a0), (1, .int x1), (2, .int x2), (3, .int x3), (4, .int x4), (5, .int x5), (6, .int x6), (7, .int x7)] [.int v13] Th M12 0 0
          refine m_istore (lv' := [(9, .int v13), (8, .int v11), (0, .ref a0), (1, .int x1), (2, .int x2), (3, .int x3), (4, .int x4), (5, .int x5), (6, .int x6), (7, .int x7)]) dX11_best_57 (by decide) rfl ?_
          refine m_iload dX11_best_59 1 rfl ?_
          refine m_iconst (v := (-1)) dX11_best_61 (by decide) ?_
          refine m_icmp_eq (tgt := 71) dX11_best_62 (by decide) (fun c1 => ?_) (fun c1 => ?_)
          · rw [if_pos c1] at h
            refine m_ldc2 k_X11_308 dX11_best_71 ?_
            exact m_lreturn dX11_best_74 rfl ⟨rfl, _, rfl, h⟩
          · rw [if_neg c1] at h
            refine m_iload dX11_best_65 0 rfl ?_
            refine m_iconst (v := (-1)) dX11_best_67 (by decide) ?_
            refine m_icmp_ne (tgt := 75) dX11_best_68 (by decide) (fun c1 => ?_) (fun c1 => ?_)
            · rw [if_neg c1] at h
              refine m_aload_n dX11_best_75 rfl 2 rfl ?_
              refine m_iload_n dX11_best_76 rfl 3 rfl ?_
              refine m_iload_n dX11_best_77 rfl 4 rfl ?_
              refine m_iload_n dX11_best_78 rfl 5 rfl ?_
              refine m_iload dX11_best_79 1 rfl ?_
              refine m_iload dX11_best_81 0 rfl ?_
              refine m_iload dX11_best_83 8 rfl ?_
              refine m_iconst (v := 0) dX11_best_85 (by decide) ?_
              refine m_invV (ci := 11) (As := [.int x1, .int x2, .int x3, .int v11, .int v13, .int x6, .int 0]) (d' := d) (mc' := 0) (ms' := 0) (rest := []) i_11_bestOf v_11_bestOf t_11_bestOf l_X11_422 ⟨_, _, rfl⟩ dX11_best_86 rfl rfl q3 (Nat.le_of_ble_eq_true rfl) (Nat.le_refl _) ⟨Nat.le_refl _, Nat.le_refl _⟩ (m_Cl h (fun v15 M14 h => ?_))
              show m_W (d + 1) 0 0 yX11_best cX11_best 12 (some .long) (m_ql Th Q) 89 [(9, .int v13), (8, .int v11), (0, .ref a0), (1, .int x1), (2, .int x2), (3, .int x3), (4, .int x4), (5, .int x5), (6, .int x6), (7, .int x7)] [.long v15] Th M14 0 0
              refine m_lstore (lv' := [(10, .long v15), (9, .int v13), (8, .int v11), (0, .ref a0), (1, .int x1), (2, .int x2), (3, .int x3), (4, .int x4), (5, .int x5), (6, .int x6), (7, .int x7)]) dX11_best_89 (by decide) rfl ?_
              refine m_iload dX11_best_91 10 rfl ?_
              refine m_if_ne (tgt := 101) dX11_best_93 (by decide) (fun c1 => ?_) (fun c1 => ?_)
              · rw [if_neg c1] at h
                refine m_iload_n dX11_best_101 rfl 6 rfl ?_
                refine m_if_ne (tgt := 111) dX11_best_102 (by decide) (fun c1 => ?_) (fun c1 => ?_)
                · rw [if_neg c1] at h
                  refine m_aload_n dX11_best_111 rfl 3 rfl ?_
                  obtain ⟨r16, q17, h⟩ := h
                  refine m_getr f_X11_92 rfl dX11_best_112 q3 q17 ?_
                  refine m_iload_n dX11_best_115 rfl 6 rfl ?_
                  refine m_iload dX11_best_116 2 rfl ?_
                  refine m_iload dX11_best_118 1 rfl ?_
                  refine m_iload dX11_best_120 9 rfl ?_
                  refine m_invS (As := [.int x3, .int v11, .int v13, .int x6]) (d' := d) (mc' := 0) (ms' := 0) (rest := [.ref r16]) i_11_placeIn s_11_placeIn l_X11_389 dX11_best_122 rfl rfl (Nat.le_of_ble_eq_true rfl) (Nat.le_refl _) ⟨Nat.le_refl _, Nat.le_refl _⟩ (m_Ci h (fun v19 M18 h => ?_))
                  show m_W (d + 1) 0 0 yX11_best cX11_best 12 (some .long) (m_ql Th Q) 125 [(10, .long v15), (9, .int v13), (8, .int v11), (0, .ref a0), (1, .int x1), (2, .int x2), (3, .int x3), (4, .int x4), (5, .int x5), (6, .int x6), (7, .int x7)] [.int v19, .ref r16] Th M18 0 0
                  obtain ⟨q20, h⟩ := h
                  refine m_bald dX11_best_125 q20 ?_
                  refine m_i2l dX11_best_126 ?_
                  exact m_lreturn dX11_best_127 rfl ⟨rfl, _, rfl, h⟩
                · rw [if_pos c1] at h
                  refine m_ldc2 k_X11_308 dX11_best_105 ?_
                  refine m_goto (tgt := 127) dX11_best_108 (by decide) ?_
                  exact m_lreturn dX11_best_127 rfl ⟨rfl, _, rfl, h⟩
              · rw [if_pos c1] at h
                refine m_lload dX11_best_96 0 rfl ?_
                refine m_goto (tgt := 127) dX11_best_98 (by decide) ?_
                exact m_lreturn dX11_best_127 rfl ⟨rfl, _, rfl, h⟩
            · rw [if_pos c1] at h
              refine m_ldc2 k_X11_308 dX11_best_71 ?_
              exact m_lreturn dX11_best_74 rfl ⟨rfl, _, rfl, h⟩
        · rw [if_pos c1] at h
          refine m_ldc2 k_X11_308 dX11_best_39 ?_
          exact m_lreturn dX11_best_42 rfl ⟨rfl, _, rfl, h⟩
set_option maxHeartbeats 4000000 in
set_option maxRecDepth 100000 in
theorem e11_without {d : Nat} {Th : mT} {Q : Int64 → mM → Prop} {a0 : Nat} {x1 : Int32} {x2 : Int32} {x3 : Int32} {M : mM} (h : Th.2.2 a0 = some (.inl 11) ∧ (P11_areTwo d Th a0 x1 x2 M (fun (v2 : Int32) (M1 : mM) => if v2 = 0 then (Q 1 M1) else (P11_in d Th x3 1 7 M1 (fun (v5 : Int32) (M4 : mM) => if v5 = 0 then (Q 1 M4) else (P11_bestOf d Th a0 x1 x2 10 0 0 0 x3 M4 (fun (v7 : Int64) (M6 : mM) => P11_bestOf d Th a0 x1 x2 10 0 0 0 0 M6 (fun (v9 : Int64) (M8 : mM) => Q ((v7 - v9)) M8)))))))) : P11_without (d + 1) Th a0 x1 x2 x3 M Q := by
  refine m_C.of (by decide +kernel) (Nat.le_of_ble_eq_true rfl) ?_
  show m_W (d + 1) 0 0 yX11_without cX11_without 6 (some .long) (m_ql Th Q) 0 [(0, .ref a0), (1, .int x1), (2, .int x2), (3, .int x3)] [] Th M 0 0
  refine m_aload_n dX11_without_0 rfl 0 rfl ?_
  refine m_iload_n dX11_without_1 rfl 1 rfl ?_
  refine m_iload_n dX11_without_2 rfl 2 rfl ?_
  obtain ⟨q3, h⟩ := h
  refine m_invV (ci := 11) (As := [.int x1, .int x2]) (d' := d) (mc' := 0) (ms' := 0) (rest := []) i_11_areTwo v_11_areTwo t_11_areTwo l_X11_323 ⟨_, _, rfl⟩ dX11_without_3 rfl rfl q3 (Nat.le_of_ble_eq_true rfl) (Nat.le_refl _) ⟨Nat.le_refl _, Nat.le_refl _⟩ (m_Ci h (fun v2 M1 h => ?_))
  show m_W (d + 1) 0 0 yX11_without cX11_without 6 (some .long) (m_ql Th Q) 6 [(0, .ref a0), (1, .int x1), (2, .int x2), (3, .int x3)] [.int v2] Th M1 0 0
  refine m_if_eq (tgt := 19) dX11_without_6 (by decide) (fun c1 => ?_) (fun c1 => ?_)
  · rw [if_pos c1] at h
    refine m_lconst (v := 1) dX11_without_19 (by decide) ?_
    exact m_lreturn dX11_without_20 rfl ⟨rfl, _, rfl, h⟩
  · rw [if_neg c1] at h
    refine m_iload_n dX11_without_9 rfl 3 rfl ?_
    refine m_iconst (v := 1) dX11_without_10 (by decide) ?_
    refine m_bipush (v := 7) dX11_without_11 (by decide) ?_
    refine m_invS (As := [.int x3, .int 1, .int 7]) (d' := d) (mc' := 0) (ms' := 0) (rest := []) i_11_in s_11_in l_X11_148 dX11_without_13 rfl rfl (Nat.le_of_ble_eq_true rfl) (Nat.le_refl _) ⟨Nat.le_refl _, Nat.le_refl _⟩ (m_Ci h (fun v5 M4 h => ?_))
    show m_W (d + 1) 0 0 yX11_without cX11_without 6 (some .long) (m_ql Th Q) 16 [(0, .ref a0), (1, .int x1), (2, .int x2), (3, .int x3)] [.int v5] Th M4 0 0
    refine m_if_ne (tgt := 21) dX11_without_16 (by decide) (fun c1 => ?_) (fun c1 => ?_)
    · rw [if_neg c1] at h
      refine m_aload_n dX11_without_21 rfl 0 rfl ?_
      refine m_iload_n dX11_without_22 rfl 1 rfl ?_
      refine m_iload_n dX11_without_23 rfl 2 rfl ?_
      refine m_bipush (v := 10) dX11_without_24 (by decide) ?_
      refine m_iconst (v := 0) dX11_without_26 (by decide) ?_
      refine m_iconst (v := 0) dX11_without_27 (by decide) ?_
      refine m_iconst (v := 0) dX11_without_28 (by decide) ?_
      refine m_iload_n dX11_without_29 rfl 3 rfl ?_
      refine m_invV (ci := 11) (As := [.int x1, .int x2, .int 10, .int 0, .int 0, .int 0, .int x3]) (d' := d) (mc' := 0) (ms' := 0) (rest := []) i_11_bestOf v_11_bestOf t_11_bestOf l_X11_422 ⟨_, _, rfl⟩ dX11_without_30 rfl rfl q3 (Nat.le_of_ble_eq_true rfl) (Nat.le_refl _) ⟨Nat.le_refl _, Nat.le_refl _⟩ (m_Cl h (fun v7 M6 h => ?_))
      show m_W (d + 1) 0 0 yX11_without cX11_without 6 (some .long) (m_ql Th Q) 33 [(0, .ref a0), (1, .int x1), (2, .int x2), (3, .int x3)] [.long v7] Th M6 0 0
      refine m_lstore (lv' := [(4, .long v7), (0, .ref a0), (1, .int x1), (2, .int x2), (3, .int x3)]) dX11_without_33 (by decide) rfl ?_
      refine m_lload dX11_without_35 0 rfl ?_
      refine m_aload_n dX11_without_37 rfl 1 rfl ?_
      refine m_iload_n dX11_without_38 rfl 2 rfl ?_
      refine m_iload_n dX11_without_39 rfl 3 rfl ?_
      refine m_bipush (v := 10) dX11_without_40 (by decide) ?_
      refine m_iconst (v := 0) dX11_without_42 (by decide) ?_
      refine m_iconst (v := 0) dX11_without_43 (by decide) ?_
      refine m_iconst (v := 0) dX11_without_44 (by decide) ?_
      refine m_iconst (v := 0) dX11_without_45 (by decide) ?_
      refine m_invV (ci := 11) (As := [.int x1, .int x2, .int 10, .int 0, .int 0, .int 0, .int 0]) (d' := d) (mc' := 0) (ms' := 0) (rest := [.long v7]) i_11_bestOf v_11_bestOf t_11_bestOf l_X11_422 ⟨_, _, rfl⟩ dX11_without_46 rfl rfl q3 (Nat.le_of_ble_eq_true rfl) (Nat.le_refl _) ⟨Nat.le_refl _, Nat.le_refl _⟩ (m_Cl h (fun v9 M8 h => ?_))
      show m_W (d + 1) 0 0 yX11_without cX11_without 6 (some .long) (m_ql Th Q) 49 [(4, .long v7), (0, .ref a0), (1, .int x1), (2, .int x2), (3, .int x3)] [.long v9, .long v7] Th M8 0 0
      refine m_lsub dX11_without_49 ?_
      exact m_lreturn dX11_without_50 rfl ⟨rfl, _, rfl, h⟩
    · rw [if_pos c1] at h
      refine m_lconst (v := 1) dX11_without_19 (by decide) ?_
      exact m_lreturn dX11_without_20 rfl ⟨rfl, _, rfl, h⟩
set_option maxHeartbeats 4000000 in
set_option maxRecDepth 100000 in
theorem h11_waits_56 {d : Nat} {Th : mT} {Q : Int32 → mM → Prop} {a0 : Nat} {x1 : Int32} {x2 : Int32} {x3 : Int32} {x4 : Int32} {x6 : Int32} {x7 : Int32} {x8 : Int32} {M : mM} (h : if x4 ≤ x7 then (Q x7 M) else (Th.2.2 a0 = some (.inl 11) ∧ (P11_bestOf d Th a0 x1 x2 ((x4 - x7)) x6 (((16 * x3) + x8)) 0 0 M (fun (v2 : Int64) (M1 : mM) => ∃ r4 : Nat, M1.2.2 a0 48 = some r4 ∧ (P11_placeIn d Th ((x4 - x7)) x6 (((16 * x3) + x8)) 0 M1 (fun (v7 : Int32) (M6 : mM) => m_ok Th r4 .byte v7 ∧ (if ((M6).1 r4 (Int32.toNatClampNeg v7)) = 2 then (∀ xv9 : Int32, xv9 = (x7 + 1) → P11_more d Th x8 M6 (fun (v11 : Int32) (M10 : mM) => H11_waits_56 (d + 1) Th Q a0 x1 x2 x3 x4 x6 xv9 v11 M10)) else (Q x7 M6)))))))) : H11_waits_56 (d + 1) Th Q a0 x1 x2 x3 x4 x6 x7 x8 M := by
  show m_W (d + 1) 0 0 yX11_waits cX11_waits 9 (some .int) (m_qi Th Q) 56 [(0, .ref a0), (1, .int x1), (2, .int x2), (3, .int x3), (4, .int x4), (6, .int x6), (7, .int x7), (8, .int x8)] [] Th M 0 0
  refine m_iload dX11_waits_56 6 rfl ?_
  refine m_iload dX11_waits_58 4 rfl ?_
  refine m_icmp_ge (tgt := 132) dX11_waits_60 (by decide) (fun c1 => ?_) (fun c1 => ?_)
  · rw [if_pos c1] at h
    refine m_iload dX11_waits_132 6 rfl ?_
    exact m_ireturn dX11_waits_134 rfl rfl ⟨rfl, _, rfl, h⟩
  · rw [if_neg c1] at h
    refine m_aload_n dX11_waits_63 rfl 0 rfl ?_
    refine m_iload_n dX11_waits_64 rfl 1 rfl ?_
    refine m_iload_n dX11_waits_65 rfl 2 rfl ?_
    refine m_iload dX11_waits_66 4 rfl ?_
    refine m_iload dX11_waits_68 6 rfl ?_
    refine m_isub dX11_waits_70 ?_
    refine m_iload dX11_waits_71 5 rfl ?_
    refine m_bipush (v := 16) dX11_waits_73 (by decide) ?_
    refine m_iload_n dX11_waits_75 rfl 3 rfl ?_
    refine m_imul dX11_waits_76 ?_
    refine m_iload dX11_waits_77 7 rfl ?_
    refine m_iadd dX11_waits_79 ?_
    refine m_iconst (v := 0) dX11_waits_80 (by decide) ?_
    refine m_iconst (v := 0) dX11_waits_81 (by decide) ?_
    obtain ⟨q3, h⟩ := h
    refine m_invV (ci := 11) (As := [.int x1, .int x2, .int ((x4 - x7)), .int x6, .int (((16 * x3) + x8)), .int 0, .int 0]) (d' := d) (mc' := 0) (ms' := 0) (rest := []) i_11_bestOf v_11_bestOf t_11_bestOf l_X11_422 ⟨_, _, rfl⟩ dX11_waits_82 rfl rfl q3 (Nat.le_of_ble_eq_true rfl) (Nat.le_refl _) ⟨Nat.le_refl _, Nat.le_refl _⟩ (m_Cl h (fun v2 M1 h => ?_))
    show m_W (d + 1) 0 0 yX11_waits cX11_waits 9 (some .int) (m_qi Th Q) 85 [(0, .ref a0), (1, .int x1), (2, .int x2), (3, .int x3), (4, .int x4), (6, .int x6), (7, .int x7), (8, .int x8)] [.long v2] Th M1 0 0
    refine m_pop2_2 dX11_waits_85 rfl ?_
    refine m_aload_n dX11_waits_86 rfl 0 rfl ?_
    obtain ⟨r4, q5, h⟩ := h
    refine m_getr f_X11_92 rfl dX11_waits_87 q3 q5 ?_
    refine m_iload dX11_waits_90 4 rfl ?_
    refine m_iload dX11_waits_92 6 rfl ?_
    refine m_isub dX11_waits_94 ?_
    refine m_iload dX11_waits_95 5 rfl ?_
    refine m_bipush (v := 16) dX11_waits_97 (by decide) ?_
    refine m_iload_n dX11_waits_99 rfl 3 rfl ?_
    refine m_imul dX11_waits_100 ?_
    refine m_iload dX11_waits_101 7 rfl ?_
    refine m_iadd dX11_waits_103 ?_
    refine m_iconst (v := 0) dX11_waits_104 (by decide) ?_
    refine m_invS (As := [.int ((x4 - x7)), .int x6, .int (((16 * x3) + x8)), .int 0]) (d' := d) (mc' := 0) (ms' := 0) (rest := [.ref r4]) i_11_placeIn s_11_placeIn l_X11_389 dX11_waits_105 rfl rfl (Nat.le_of_ble_eq_true rfl) (Nat.le_refl _) ⟨Nat.le_refl _, Nat.le_refl _⟩ (m_Ci h (fun v7 M6 h => ?_))
    show m_W (d + 1) 0 0 yX11_waits cX11_waits 9 (some .int) (m_qi Th Q) 108 [(0, .ref a0), (1, .int x1), (2, .int x2), (3, .int x3), (4, .int x4), (6, .int x6), (7, .int x7), (8, .int x8)] [.int v7, .ref r4] Th M6 0 0
    obtain ⟨q8, h⟩ := h
    refine m_bald dX11_waits_108 q8 ?_
    refine m_iconst (v := 2) dX11_waits_109 (by decide) ?_
    refine m_icmp_eq (tgt := 116) dX11_waits_110 (by decide) (fun c1 => ?_) (fun c1 => ?_)
    · rw [if_pos c1] at h
      refine m_iload dX11_waits_116 6 rfl ?_
      refine m_iconst (v := 1) dX11_waits_118 (by decide) ?_
      refine m_iadd dX11_waits_119 ?_
      obtain ⟨xv9, e_xv9⟩ : ∃ xv9 : Int32, xv9 = (x7 + 1) := ⟨_, rfl⟩
      have h := h xv9 e_xv9
      rw [← e_xv9]
      refine m_istore (lv' := [(7, .int xv9), (0, .ref a0), (1, .int x1), (2, .int x2), (3, .int x3), (4, .int x4), (6, .int x6), (8, .int x8)]) dX11_waits_120 (by decide) rfl ?_
      refine m_iload dX11_waits_122 7 rfl ?_
      refine m_invS (As := [.int x8]) (d' := d) (mc' := 0) (ms' := 0) (rest := []) i_11_more s_11_more l_X11_297 dX11_waits_124 rfl rfl (Nat.le_of_ble_eq_true rfl) (Nat.le_refl _) ⟨Nat.le_refl _, Nat.le_refl _⟩ (m_Ci h (fun v11 M10 h => ?_))
      show m_W (d + 1) 0 0 yX11_waits cX11_waits 9 (some .int) (m_qi Th Q) 127 [(7, .int xv9), (0, .ref a0), (1, .int x1), (2, .int x2), (3, .int x3), (4, .int x4), (6, .int x6), (8, .int x8)] [.int v11] Th M10 0 0
      refine m_istore (lv' := [(8, .int v11), (7, .int xv9), (0, .ref a0), (1, .int x1), (2, .int x2), (3, .int x3), (4, .int x4), (6, .int x6)]) dX11_waits_127 (by decide) rfl ?_
      refine m_goto (tgt := 56) dX11_waits_129 (by decide) ?_
      exact m_sub [2, 3, 4, 5, 6, 7, 1, 0] rfl h
    · rw [if_neg c1] at h
      refine m_iload dX11_waits_113 6 rfl ?_
      exact m_ireturn dX11_waits_115 rfl rfl ⟨rfl, _, rfl, h⟩
set_option maxHeartbeats 4000000 in
set_option maxRecDepth 100000 in
theorem e11_waits {d : Nat} {Th : mT} {Q : Int32 → mM → Prop} {a0 : Nat} {x1 : Int32} {x2 : Int32} {x3 : Int32} {x4 : Int32} {x5 : Int32} {M : mM} (h : Th.2.2 a0 = some (.inl 11) ∧ (P11_areTwo d Th a0 x1 x2 M (fun (v2 : Int32) (M1 : mM) => if v2 = 0 then (Q (-1) M1) else (P11_isRiddle d Th a0 x3 M1 (fun (v5 : Int32) (M4 : mM) => if v5 = 0 then (Q (-1) M4) else (P11_in d Th x4 1 10 M4 (fun (v7 : Int32) (M6 : mM) => if v7 = 0 then (Q (-1) M6) else (P11_in d Th x5 0 5 M6 (fun (v9 : Int32) (M8 : mM) => if v9 = 0 then (Q (-1) M8) else (∀ xv10 : Int32, xv10 = ((21 * x3) + 6) → H11_waits_56 (d + 1) Th Q a0 x1 x2 x3 x4 xv10 0 x5 M8)))))))))) : P11_waits (d + 1) Th a0 x1 x2 x3 x4 x5 M Q := by
  refine m_C.of (by decide +kernel) (Nat.le_of_ble_eq_true rfl) ?_
  show m_W (d + 1) 0 0 yX11_waits cX11_waits 9 (some .int) (m_qi Th Q) 0 [(0, .ref a0), (1, .int x1), (2, .int x2), (3, .int x3), (4, .int x4), (5, .int x5)] [] Th M 0 0
  refine m_aload_n dX11_waits_0 rfl 0 rfl ?_
  refine m_iload_n dX11_waits_1 rfl 1 rfl ?_
  refine m_iload_n dX11_waits_2 rfl 2 rfl ?_
  obtain ⟨q3, h⟩ := h
  refine m_invV (ci := 11) (As := [.int x1, .int x2]) (d' := d) (mc' := 0) (ms' := 0) (rest := []) i_11_areTwo v_11_areTwo t_11_areTwo l_X11_323 ⟨_, _, rfl⟩ dX11_waits_3 rfl rfl q3 (Nat.le_of_ble_eq_true rfl) (Nat.le_refl _) ⟨Nat.le_refl _, Nat.le_refl _⟩ (m_Ci h (fun v2 M1 h => ?_))
  show m_W (d + 1) 0 0 yX11_waits cX11_waits 9 (some .int) (m_qi Th Q) 6 [(0, .ref a0), (1, .int x1), (2, .int x2), (3, .int x3), (4, .int x4), (5, .int x5)] [.int v2] Th M1 0 0
  refine m_if_eq (tgt := 38) dX11_waits_6 (by decide) (fun c1 => ?_) (fun c1 => ?_)
  · rw [if_pos c1] at h
    refine m_iconst (v := (-1)) dX11_waits_38 (by decide) ?_
    exact m_ireturn dX11_waits_39 rfl rfl ⟨rfl, _, rfl, h⟩
  · rw [if_neg c1] at h
    refine m_aload_n dX11_waits_9 rfl 0 rfl ?_
    refine m_iload_n dX11_waits_10 rfl 3 rfl ?_
    refine m_invV (ci := 11) (As := [.int x3]) (d' := d) (mc' := 0) (ms' := 0) (rest := []) i_11_isRiddle v_11_isRiddle t_11_isRiddle l_X11_166 ⟨_, _, rfl⟩ dX11_waits_11 rfl rfl q3 (Nat.le_of_ble_eq_true rfl) (Nat.le_refl _) ⟨Nat.le_refl _, Nat.le_refl _⟩ (m_Ci h (fun v5 M4 h => ?_))
    show m_W (d + 1) 0 0 yX11_waits cX11_waits 9 (some .int) (m_qi Th Q) 14 [(0, .ref a0), (1, .int x1), (2, .int x2), (3, .int x3), (4, .int x4), (5, .int x5)] [.int v5] Th M4 0 0
    refine m_if_eq (tgt := 38) dX11_waits_14 (by decide) (fun c1 => ?_) (fun c1 => ?_)
    · rw [if_pos c1] at h
      refine m_iconst (v := (-1)) dX11_waits_38 (by decide) ?_
      exact m_ireturn dX11_waits_39 rfl rfl ⟨rfl, _, rfl, h⟩
    · rw [if_neg c1] at h
      refine m_iload dX11_waits_17 4 rfl ?_
      refine m_iconst (v := 1) dX11_waits_19 (by decide) ?_
      refine m_bipush (v := 10) dX11_waits_20 (by decide) ?_
      refine m_invS (As := [.int x4, .int 1, .int 10]) (d' := d) (mc' := 0) (ms' := 0) (rest := []) i_11_in s_11_in l_X11_148 dX11_waits_22 rfl rfl (Nat.le_of_ble_eq_true rfl) (Nat.le_refl _) ⟨Nat.le_refl _, Nat.le_refl _⟩ (m_Ci h (fun v7 M6 h => ?_))
      show m_W (d + 1) 0 0 yX11_waits cX11_waits 9 (some .int) (m_qi Th Q) 25 [(0, .ref a0), (1, .int x1), (2, .int x2), (3, .int x3), (4, .int x4), (5, .int x5)] [.int v7] Th M6 0 0
      refine m_if_eq (tgt := 38) dX11_waits_25 (by decide) (fun c1 => ?_) (fun c1 => ?_)
      · rw [if_pos c1] at h
        refine m_iconst (v := (-1)) dX11_waits_38 (by decide) ?_
        exact m_ireturn dX11_waits_39 rfl rfl ⟨rfl, _, rfl, h⟩
      · rw [if_neg c1] at h
        refine m_iload dX11_waits_28 5 rfl ?_
        refine m_iconst (v := 0) dX11_waits_30 (by decide) ?_
        refine m_iconst (v := 5) dX11_waits_31 (by decide) ?_
        refine m_invS (As := [.int x5, .int 0, .int 5]) (d' := d) (mc' := 0) (ms' := 0) (rest := []) i_11_in s_11_in l_X11_148 dX11_waits_32 rfl rfl (Nat.le_of_ble_eq_true rfl) (Nat.le_refl _) ⟨Nat.le_refl _, Nat.le_refl _⟩ (m_Ci h (fun v9 M8 h => ?_))
        show m_W (d + 1) 0 0 yX11_waits cX11_waits 9 (some .int) (m_qi Th Q) 35 [(0, .ref a0), (1, .int x1), (2, .int x2), (3, .int x3), (4, .int x4), (5, .int x5)] [.int v9] Th M8 0 0
        refine m_if_ne (tgt := 40) dX11_waits_35 (by decide) (fun c1 => ?_) (fun c1 => ?_)
        · rw [if_neg c1] at h
          refine m_bipush (v := 21) dX11_waits_40 (by decide) ?_
          refine m_iload_n dX11_waits_42 rfl 3 rfl ?_
          refine m_imul dX11_waits_43 ?_
          refine m_bipush (v := 6) dX11_waits_44 (by decide) ?_
          refine m_iadd dX11_waits_46 ?_
          obtain ⟨xv10, e_xv10⟩ : ∃ xv10 : Int32, xv10 = ((21 * x3) + 6) := ⟨_, rfl⟩
          have h := h xv10 e_xv10
          rw [← e_xv10]
          refine m_istore (lv' := [(6, .int xv10), (0, .ref a0), (1, .int x1), (2, .int x2), (3, .int x3), (4, .int x4), (5, .int x5)]) dX11_waits_47 (by decide) rfl ?_
          refine m_iconst (v := 0) dX11_waits_49 (by decide) ?_
          refine m_istore (lv' := [(7, .int 0), (6, .int xv10), (0, .ref a0), (1, .int x1), (2, .int x2), (3, .int x3), (4, .int x4), (5, .int x5)]) dX11_waits_50 (by decide) rfl ?_
          refine m_iload dX11_waits_52 7 rfl ?_
          refine m_istore (lv' := [(8, .int x5), (7, .int 0), (6, .int xv10), (0, .ref a0), (1, .int x1), (2, .int x2), (3, .int x3), (4, .int x4), (5, .int x5)]) dX11_waits_54 (by decide) rfl ?_
          exact m_sub [3, 4, 5, 6, 7, 2, 1, 0] rfl h
        · rw [if_pos c1] at h
          refine m_iconst (v := (-1)) dX11_waits_38 (by decide) ?_
          exact m_ireturn dX11_waits_39 rfl rfl ⟨rfl, _, rfl, h⟩
set_option maxHeartbeats 4000000 in
set_option maxRecDepth 100000 in
theorem h11_order_37 {d : Nat} {Th : mT} {Q : Int32 → mM → Prop} {a0 : Nat} {x1 : Int32} {x2 : Int32} {M : mM} (h : Th.2.2 a0 = some (.inl 11) ∧ (if ((M).1 a0 0) ≤ x2 then (if x1 = ((1 <<< (((M).1 a0 0) &&& 31)) - 1) then (H11_order_101 (d + 1) Th Q a0 0 M) else (Q (-2) M)) else (∃ r2 : Nat, M.2.2 a0 11 = some r2 ∧ (m_ok Th r2 .byte x2 ∧ (if ((M).1 r2 (Int32.toNatClampNeg x2)) < 0 then (H11_order_37 (d + 1) Th Q a0 x1 (x2 + 1) M) else (if ((M).1 a0 0) ≤ ((M).1 r2 (Int32.toNatClampNeg x2)) then (H11_order_37 (d + 1) Th Q a0 x1 (x2 + 1) M) else (∀ xv5 : Int32, xv5 = (x1 ||| (1 <<< (((M).1 r2 (Int32.toNatClampNeg x2)) &&& 31))) → H11_order_37 (d + 1) Th Q a0 xv5 (x2 + 1) M))))))) : H11_order_37 (d + 1) Th Q a0 x1 x2 M := by
  show m_W (d + 1) 0 0 yX11_order cX11_order 3 (some .int) (m_qi Th Q) 37 [(0, .ref a0), (1, .int x1), (2, .int x2)] [] Th M 0 0
  refine m_iload_n dX11_order_37 rfl 2 rfl ?_
  refine m_aload_n dX11_order_38 rfl 0 rfl ?_
  obtain ⟨q1, h⟩ := h
  refine m_geti f_X11_141 rfl dX11_order_39 q1 ?_
  refine m_icmp_ge (tgt := 84) dX11_order_42 (by decide) (fun c1 => ?_) (fun c1 => ?_)
  · rw [if_pos c1] at h
    refine m_iload_n dX11_order_84 rfl 1 rfl ?_
    refine m_iconst (v := 1) dX11_order_85 (by decide) ?_
    refine m_aload_n dX11_order_86 rfl 0 rfl ?_
    refine m_geti f_X11_141 rfl dX11_order_87 q1 ?_
    refine m_ishl dX11_order_90 ?_
    refine m_iconst (v := 1) dX11_order_91 (by decide) ?_
    refine m_isub dX11_order_92 ?_
    refine m_icmp_eq (tgt := 99) dX11_order_93 (by decide) (fun c1 => ?_) (fun c1 => ?_)
    · rw [if_pos c1] at h
      refine m_iconst (v := 0) dX11_order_99 (by decide) ?_
      refine m_istore_n (lv' := [(2, .int 0), (0, .ref a0), (1, .int x1)]) dX11_order_100 rfl (by decide) rfl ?_
      exact m_sub [1, 0] rfl h
    · rw [if_neg c1] at h
      refine m_bipush (v := (-2)) dX11_order_96 (by decide) ?_
      exact m_ireturn dX11_order_98 rfl rfl ⟨rfl, _, rfl, h⟩
  · rw [if_neg c1] at h
    refine m_aload_n dX11_order_45 rfl 0 rfl ?_
    obtain ⟨r2, q3, h⟩ := h
    refine m_getr f_X11_28 rfl dX11_order_46 q1 q3 ?_
    refine m_iload_n dX11_order_49 rfl 2 rfl ?_
    obtain ⟨q4, h⟩ := h
    refine m_bald dX11_order_50 q4 ?_
    refine m_if_lt (tgt := 78) dX11_order_51 (by decide) (fun c1 => ?_) (fun c1 => ?_)
    · rw [if_pos c1] at h
      refine m_iinc (v := x2 + 1) (lv' := [(2, .int (x2 + 1)), (0, .ref a0), (1, .int x1)]) dX11_order_78 2 rfl rfl (by decide) rfl ?_
      refine m_goto (tgt := 37) dX11_order_81 (by decide) ?_
      exact m_sub [1, 2, 0] rfl h
    · rw [if_neg c1] at h
      refine m_aload_n dX11_order_54 rfl 0 rfl ?_
      refine m_getr f_X11_28 rfl dX11_order_55 q1 q3 ?_
      refine m_iload_n dX11_order_58 rfl 2 rfl ?_
      refine m_bald dX11_order_59 q4 ?_
      refine m_aload_n dX11_order_60 rfl 0 rfl ?_
      refine m_geti f_X11_141 rfl dX11_order_61 q1 ?_
      refine m_icmp_ge (tgt := 78) dX11_order_64 (by decide) (fun c1 => ?_) (fun c1 => ?_)
      · rw [if_pos c1] at h
        refine m_iinc (v := x2 + 1) (lv' := [(2, .int (x2 + 1)), (0, .ref a0), (1, .int x1)]) dX11_order_78 2 rfl rfl (by decide) rfl ?_
        refine m_goto (tgt := 37) dX11_order_81 (by decide) ?_
        exact m_sub [1, 2, 0] rfl h
      · rw [if_neg c1] at h
        refine m_iload_n dX11_order_67 rfl 1 rfl ?_
        refine m_iconst (v := 1) dX11_order_68 (by decide) ?_
        refine m_aload_n dX11_order_69 rfl 0 rfl ?_
        refine m_getr f_X11_28 rfl dX11_order_70 q1 q3 ?_
        refine m_iload_n dX11_order_73 rfl 2 rfl ?_
        refine m_bald dX11_order_74 q4 ?_
        refine m_ishl dX11_order_75 ?_
        refine m_ior dX11_order_76 ?_
        obtain ⟨xv5, e_xv5⟩ : ∃ xv5 : Int32, xv5 = (x1 ||| (1 <<< (((M).1 r2 (Int32.toNatClampNeg x2)) &&& 31))) := ⟨_, rfl⟩
        have h := h xv5 e_xv5
        rw [← e_xv5]
        refine m_istore_n (lv' := [(1, .int xv5), (0, .ref a0), (2, .int x2)]) dX11_order_77 rfl (by decide) rfl ?_
        refine m_iinc (v := x2 + 1) (lv' := [(2, .int (x2 + 1)), (1, .int xv5), (0, .ref a0)]) dX11_order_78 2 rfl rfl (by decide) rfl ?_
        refine m_goto (tgt := 37) dX11_order_81 (by decide) ?_
        exact m_sub [2, 1, 0] rfl h
set_option maxHeartbeats 4000000 in
set_option maxRecDepth 100000 in
theorem h11_order_101 {d : Nat} {Th : mT} {Q : Int32 → mM → Prop} {a0 : Nat} {x2 : Int32} {M : mM} (h : Th.2.2 a0 = some (.inl 11) ∧ (if ((M).1 a0 0) ≤ x2 then (∀ M2 : mM, M2 = m_ui M a0 56 ((((M).1 a0 56) + 1)) → Q ((((M2).1 a0 56) - 1)) M2) else (∃ r3 : Nat, M.2.2 a0 57 = some r3 ∧ (∃ r5 : Nat, M.2.2 a0 11 = some r5 ∧ (m_ok Th r5 .byte x2 ∧ (m_okw Th r3 .int (((5 * ((M).1 a0 56)) + x2)) ∧ (H11_order_101 (d + 1) Th Q a0 (x2 + 1) (m_ui M r3 (Int32.toNatClampNeg (((5 * ((M).1 a0 56)) + x2))) (((M).1 r5 (Int32.toNatClampNeg x2))))))))))) : H11_order_101 (d + 1) Th Q a0 x2 M := by
  show m_W (d + 1) 0 0 yX11_order cX11_order 3 (some .int) (m_qi Th Q) 101 [(0, .ref a0), (2, .int x2)] [] Th M 0 0
  refine m_iload_n dX11_order_101 rfl 1 rfl ?_
  refine m_aload_n dX11_order_102 rfl 0 rfl ?_
  obtain ⟨q1, h⟩ := h
  refine m_geti f_X11_141 rfl dX11_order_103 q1 ?_
  refine m_icmp_ge (tgt := 134) dX11_order_106 (by decide) (fun c1 => ?_) (fun c1 => ?_)
  · rw [if_pos c1] at h
    refine m_aload_n dX11_order_134 rfl 0 rfl ?_
    refine m_aload_n dX11_order_135 rfl 0 rfl ?_
    refine m_geti f_X11_152 rfl dX11_order_136 q1 ?_
    refine m_iconst (v := 1) dX11_order_139 (by decide) ?_
    refine m_iadd dX11_order_140 ?_
    refine m_puti f_X11_152 rfl (Or.inl rfl) dX11_order_141 q1 ⟨rfl, rfl⟩ ?_
    refine m_aload_n dX11_order_144 rfl 0 rfl ?_
    obtain ⟨M2, e_M2⟩ : ∃ M2 : mM, M2 = m_ui M a0 56 ((((M).1 a0 56) + 1)) := ⟨_, rfl⟩
    have h := h M2 e_M2
    rw [← e_M2]
    refine m_geti f_X11_152 rfl dX11_order_145 q1 ?_
    refine m_iconst (v := 1) dX11_order_148 (by decide) ?_
    refine m_isub dX11_order_149 ?_
    exact m_ireturn dX11_order_150 rfl rfl ⟨rfl, _, rfl, h⟩
  · rw [if_neg c1] at h
    refine m_aload_n dX11_order_109 rfl 0 rfl ?_
    obtain ⟨r3, q4, h⟩ := h
    refine m_getr f_X11_107 rfl dX11_order_110 q1 q4 ?_
    refine m_iconst (v := 5) dX11_order_113 (by decide) ?_
    refine m_aload_n dX11_order_114 rfl 0 rfl ?_
    refine m_geti f_X11_152 rfl dX11_order_115 q1 ?_
    refine m_imul dX11_order_118 ?_
    refine m_iload_n dX11_order_119 rfl 1 rfl ?_
    refine m_iadd dX11_order_120 ?_
    refine m_aload_n dX11_order_121 rfl 0 rfl ?_
    obtain ⟨r5, q6, h⟩ := h
    refine m_getr f_X11_28 rfl dX11_order_122 q1 q6 ?_
    refine m_iload_n dX11_order_125 rfl 1 rfl ?_
    obtain ⟨q7, h⟩ := h
    refine m_bald dX11_order_126 q7 ?_
    obtain ⟨q8, h⟩ := h
    refine m_iast dX11_order_127 q8 ?_
    refine m_iinc (v := x2 + 1) (lv' := [(2, .int (x2 + 1)), (0, .ref a0)]) dX11_order_128 1 rfl rfl (by decide) rfl ?_
    refine m_goto (tgt := 101) dX11_order_131 (by decide) ?_
    exact m_sub [1, 0] rfl h
set_option maxHeartbeats 4000000 in
set_option maxRecDepth 100000 in
theorem e11_order {d : Nat} {Th : mT} {Q : Int32 → mM → Prop} {a0 : Nat} {M : mM} (h : Th.2.2 a0 = some (.inl 11) ∧ (if ((M).1 a0 0) = 0 then (Q (-1) M) else (if ((M).1 a0 56) = 5 then (Q (-1) M) else (if ((M).1 a0 0) ≤ ((M).1 a0 12) then (H11_order_37 (d + 1) Th Q a0 0 0 (m_ui M a0 12 0)) else (Q (-1) M))))) : P11_order (d + 1) Th a0 M Q := by
  refine m_C.of (by decide +kernel) (Nat.le_of_ble_eq_true rfl) ?_
  show m_W (d + 1) 0 0 yX11_order cX11_order 3 (some .int) (m_qi Th Q) 0 [(0, .ref a0)] [] Th M 0 0
  refine m_aload_n dX11_order_0 rfl 0 rfl ?_
  obtain ⟨q1, h⟩ := h
  refine m_geti f_X11_141 rfl dX11_order_1 q1 ?_
  refine m_if_eq (tgt := 26) dX11_order_4 (by decide) (fun c1 => ?_) (fun c1 => ?_)
  · rw [if_pos c1] at h
    refine m_iconst (v := (-1)) dX11_order_26 (by decide) ?_
    exact m_ireturn dX11_order_27 rfl rfl ⟨rfl, _, rfl, h⟩
  · rw [if_neg c1] at h
    refine m_aload_n dX11_order_7 rfl 0 rfl ?_
    refine m_geti f_X11_152 rfl dX11_order_8 q1 ?_
    refine m_iconst (v := 5) dX11_order_11 (by decide) ?_
    refine m_icmp_eq (tgt := 26) dX11_order_12 (by decide) (fun c1 => ?_) (fun c1 => ?_)
    · rw [if_pos c1] at h
      refine m_iconst (v := (-1)) dX11_order_26 (by decide) ?_
      exact m_ireturn dX11_order_27 rfl rfl ⟨rfl, _, rfl, h⟩
    · rw [if_neg c1] at h
      refine m_aload_n dX11_order_15 rfl 0 rfl ?_
      refine m_geti f_X11_172 rfl dX11_order_16 q1 ?_
      refine m_aload_n dX11_order_19 rfl 0 rfl ?_
      refine m_geti f_X11_141 rfl dX11_order_20 q1 ?_
      refine m_icmp_ge (tgt := 28) dX11_order_23 (by decide) (fun c1 => ?_) (fun c1 => ?_)
      · rw [if_pos c1] at h
        refine m_aload_n dX11_order_28 rfl 0 rfl ?_
        refine m_iconst (v := 0) dX11_order_29 (by decide) ?_
        refine m_puti f_X11_172 rfl (Or.inl rfl) dX11_order_30 q1 ⟨rfl, rfl⟩ ?_
        refine m_iconst (v := 0) dX11_order_33 (by decide) ?_
        refine m_istore_n (lv' := [(1, .int 0), (0, .ref a0)]) dX11_order_34 rfl (by decide) rfl ?_
        refine m_iconst (v := 0) dX11_order_35 (by decide) ?_
        refine m_istore_n (lv' := [(2, .int 0), (1, .int 0), (0, .ref a0)]) dX11_order_36 rfl (by decide) rfl ?_
        exact m_sub [2, 1, 0] rfl h
      · rw [if_neg c1] at h
        refine m_iconst (v := (-1)) dX11_order_26 (by decide) ?_
        exact m_ireturn dX11_order_27 rfl rfl ⟨rfl, _, rfl, h⟩
set_option maxHeartbeats 4000000 in
set_option maxRecDepth 100000 in
theorem h11_meetings_4 {d : Nat} {Th : mT} {Q : Int32 → mM → Prop} {a0 : Nat} {x1 : Int32} {x2 : Int32} {x3 : Int32} {M : mM} (h : if x1 ≤ x3 then (Q x2 M) else (H11_meetings_12 (d + 1) Th Q a0 x1 x2 x3 0 M)) : H11_meetings_4 (d + 1) Th Q a0 x1 x2 x3 M := by
  show m_W (d + 1) 0 0 yX11_meetings cX11_meetings 6 (some .int) (m_qi Th Q) 4 [(0, .ref a0), (1, .int x1), (2, .int x2), (3, .int x3)] [] Th M 0 0
  refine m_iload_n dX11_meetings_4 rfl 3 rfl ?_
  refine m_iload_n dX11_meetings_5 rfl 1 rfl ?_
  refine m_icmp_ge (tgt := 92) dX11_meetings_6 (by decide) (fun c1 => ?_) (fun c1 => ?_)
  · rw [if_pos c1] at h
    refine m_iload_n dX11_meetings_92 rfl 2 rfl ?_
    exact m_ireturn dX11_meetings_93 rfl rfl ⟨rfl, _, rfl, h⟩
  · rw [if_neg c1] at h
    refine m_iconst (v := 0) dX11_meetings_9 (by decide) ?_
    refine m_istore (lv' := [(4, .int 0), (0, .ref a0), (1, .int x1), (2, .int x2), (3, .int x3)]) dX11_meetings_10 (by decide) rfl ?_
    exact m_sub [1, 2, 3, 4, 0] rfl h
set_option maxHeartbeats 4000000 in
set_option maxRecDepth 100000 in
theorem h11_meetings_12 {d : Nat} {Th : mT} {Q : Int32 → mM → Prop} {a0 : Nat} {x1 : Int32} {x2 : Int32} {x3 : Int32} {x4 : Int32} {M : mM} (h : if x3 ≤ x4 then (H11_meetings_4 (d + 1) Th Q a0 x1 x2 (x3 + 1) M) else (H11_meetings_21 (d + 1) Th Q a0 x1 x2 x3 x4 1 M)) : H11_meetings_12 (d + 1) Th Q a0 x1 x2 x3 x4 M := by
  show m_W (d + 1) 0 0 yX11_meetings cX11_meetings 6 (some .int) (m_qi Th Q) 12 [(0, .ref a0), (1, .int x1), (2, .int x2), (3, .int x3), (4, .int x4)] [] Th M 0 0
  refine m_iload dX11_meetings_12 4 rfl ?_
  refine m_iload_n dX11_meetings_14 rfl 3 rfl ?_
  refine m_icmp_ge (tgt := 86) dX11_meetings_15 (by decide) (fun c1 => ?_) (fun c1 => ?_)
  · rw [if_pos c1] at h
    refine m_iinc (v := x3 + 1) (lv' := [(3, .int (x3 + 1)), (0, .ref a0), (1, .int x1), (2, .int x2), (4, .int x4)]) dX11_meetings_86 3 rfl rfl (by decide) rfl ?_
    refine m_goto (tgt := 4) dX11_meetings_89 (by decide) ?_
    exact m_sub [1, 2, 3, 0] rfl h
  · rw [if_neg c1] at h
    refine m_iconst (v := 1) dX11_meetings_18 (by decide) ?_
    refine m_istore (lv' := [(5, .int 1), (0, .ref a0), (1, .int x1), (2, .int x2), (3, .int x3), (4, .int x4)]) dX11_meetings_19 (by decide) rfl ?_
    exact m_sub [1, 2, 3, 4, 5, 0] rfl h
set_option maxHeartbeats 4000000 in
set_option maxRecDepth 100000 in
theorem h11_meetings_21 {d : Nat} {Th : mT} {Q : Int32 → mM → Prop} {a0 : Nat} {x1 : Int32} {x2 : Int32} {x3 : Int32} {x4 : Int32} {x5 : Int32} {M : mM} (h : Th.2.2 a0 = some (.inl 11) ∧ (if ((M).1 a0 0) ≤ x5 then (H11_meetings_12 (d + 1) Th Q a0 x1 x2 x3 (x4 + 1) M) else (∃ r2 : Nat, M.2.2 a0 57 = some r2 ∧ (∃ r4 : Nat, M.2.2 a0 58 = some r4 ∧ (m_ok Th r4 .int x3 ∧ (m_ok Th r2 .int (((5 * ((M).1 r4 (Int32.toNatClampNeg x3))) + x5)) ∧ (m_ok Th r4 .int x4 ∧ (m_ok Th r2 .int (((5 * ((M).1 r4 (Int32.toNatClampNeg x4))) + x5)) ∧ (∀ xv10 : Int32, xv10 = (x2 + (if ((M).1 r2 (Int32.toNatClampNeg (((5 * ((M).1 r4 (Int32.toNatClampNeg x3))) + x5)))) = ((M).1 r2 (Int32.toNatClampNeg (((5 * ((M).1 r4 (Int32.toNatClampNeg x4))) + x5)))) then 1 else 0)) → H11_meetings_21 (d + 1) Th Q a0 x1 xv10 x3 x4 (x5 + 1) M))))))))) : H11_meetings_21 (d + 1) Th Q a0 x1 x2 x3 x4 x5 M := by
  show m_W (d + 1) 0 0 yX11_meetings cX11_meetings 6 (some .int) (m_qi Th Q) 21 [(0, .ref a0), (1, .int x1), (2, .int x2), (3, .int x3), (4, .int x4), (5, .int x5)] [] Th M 0 0
  refine m_iload dX11_meetings_21 5 rfl ?_
  refine m_aload_n dX11_meetings_23 rfl 0 rfl ?_
  obtain ⟨q1, h⟩ := h
  refine m_geti f_X11_141 rfl dX11_meetings_24 q1 ?_
  refine m_icmp_ge (tgt := 80) dX11_meetings_27 (by decide) (fun c1 => ?_) (fun c1 => ?_)
  · rw [if_pos c1] at h
    refine m_iinc (v := x4 + 1) (lv' := [(4, .int (x4 + 1)), (0, .ref a0), (1, .int x1), (2, .int x2), (3, .int x3), (5, .int x5)]) dX11_meetings_80 4 rfl rfl (by decide) rfl ?_
    refine m_goto (tgt := 12) dX11_meetings_83 (by decide) ?_
    exact m_sub [1, 2, 3, 4, 0] rfl h
  · rw [if_neg c1] at h
    refine m_iload_n dX11_meetings_30 rfl 2 rfl ?_
    refine m_aload_n dX11_meetings_31 rfl 0 rfl ?_
    obtain ⟨r2, q3, h⟩ := h
    refine m_getr f_X11_107 rfl dX11_meetings_32 q1 q3 ?_
    refine m_iconst (v := 5) dX11_meetings_35 (by decide) ?_
    refine m_aload_n dX11_meetings_36 rfl 0 rfl ?_
    obtain ⟨r4, q5, h⟩ := h
    refine m_getr f_X11_110 rfl dX11_meetings_37 q1 q5 ?_
    refine m_iload_n dX11_meetings_40 rfl 3 rfl ?_
    obtain ⟨q6, h⟩ := h
    refine m_iald dX11_meetings_41 q6 ?_
    refine m_imul dX11_meetings_42 ?_
    refine m_iload dX11_meetings_43 5 rfl ?_
    refine m_iadd dX11_meetings_45 ?_
    obtain ⟨q7, h⟩ := h
    refine m_iald dX11_meetings_46 q7 ?_
    refine m_aload_n dX11_meetings_47 rfl 0 rfl ?_
    refine m_getr f_X11_107 rfl dX11_meetings_48 q1 q3 ?_
    refine m_iconst (v := 5) dX11_meetings_51 (by decide) ?_
    refine m_aload_n dX11_meetings_52 rfl 0 rfl ?_
    refine m_getr f_X11_110 rfl dX11_meetings_53 q1 q5 ?_
    refine m_iload dX11_meetings_56 4 rfl ?_
    obtain ⟨q8, h⟩ := h
    refine m_iald dX11_meetings_58 q8 ?_
    refine m_imul dX11_meetings_59 ?_
    refine m_iload dX11_meetings_60 5 rfl ?_
    refine m_iadd dX11_meetings_62 ?_
    obtain ⟨q9, h⟩ := h
    refine m_iald dX11_meetings_63 q9 ?_
    have hJ : m_W (d + 1) 0 0 yX11_meetings cX11_meetings 6 (some .int) (m_qi Th Q) 72 [(0, .ref a0), (1, .int x1), (2, .int x2), (3, .int x3), (4, .int x4), (5, .int x5)] [.int ((if ((M).1 r2 (Int32.toNatClampNeg (((5 * ((M).1 r4 (Int32.toNatClampNeg x3))) + x5)))) = ((M).1 r2 (Int32.toNatClampNeg (((5 * ((M).1 r4 (Int32.toNatClampNeg x4))) + x5)))) then 1 else 0)), .int x2] Th M 0 0 := by
      refine m_iadd dX11_meetings_72 ?_
      obtain ⟨xv10, e_xv10⟩ : ∃ xv10 : Int32, xv10 = (x2 + (if ((M).1 r2 (Int32.toNatClampNeg (((5 * ((M).1 r4 (Int32.toNatClampNeg x3))) + x5)))) = ((M).1 r2 (Int32.toNatClampNeg (((5 * ((M).1 r4 (Int32.toNatClampNeg x4))) + x5)))) then 1 else 0)) := ⟨_, rfl⟩
      have h := h xv10 e_xv10
      rw [← e_xv10]
      refine m_istore_n (lv' := [(2, .int xv10), (0, .ref a0), (1, .int x1), (3, .int x3), (4, .int x4), (5, .int x5)]) dX11_meetings_73 rfl (by decide) rfl ?_
      refine m_iinc (v := x5 + 1) (lv' := [(5, .int (x5 + 1)), (2, .int xv10), (0, .ref a0), (1, .int x1), (3, .int x3), (4, .int x4)]) dX11_meetings_74 5 rfl rfl (by decide) rfl ?_
      refine m_goto (tgt := 21) dX11_meetings_77 (by decide) ?_
      exact m_sub [2, 3, 1, 4, 5, 0] rfl h
    refine m_icmp_ne (tgt := 71) dX11_meetings_64 (by decide) (fun c1 => ?_) (fun c1 => ?_)
    · simp only [if_neg c1] at hJ
      refine m_iconst (v := 0) dX11_meetings_71 (by decide) ?_
      exact hJ
    · simp only [if_pos c1] at hJ
      refine m_iconst (v := 1) dX11_meetings_67 (by decide) ?_
      refine m_goto (tgt := 72) dX11_meetings_68 (by decide) ?_
      exact hJ
set_option maxHeartbeats 4000000 in
set_option maxRecDepth 100000 in
theorem e11_meetings {d : Nat} {Th : mT} {Q : Int32 → mM → Prop} {a0 : Nat} {x1 : Int32} {M : mM} (h : H11_meetings_4 (d + 1) Th Q a0 x1 0 0 M) : P11_meetings (d + 1) Th a0 x1 M Q := by
  refine m_C.of (by decide +kernel) (Nat.le_of_ble_eq_true rfl) ?_
  show m_W (d + 1) 0 0 yX11_meetings cX11_meetings 6 (some .int) (m_qi Th Q) 0 [(0, .ref a0), (1, .int x1)] [] Th M 0 0
  refine m_iconst (v := 0) dX11_meetings_0 (by decide) ?_
  refine m_istore_n (lv' := [(2, .int 0), (0, .ref a0), (1, .int x1)]) dX11_meetings_1 rfl (by decide) rfl ?_
  refine m_iconst (v := 0) dX11_meetings_2 (by decide) ?_
  refine m_istore_n (lv' := [(3, .int 0), (2, .int 0), (0, .ref a0), (1, .int x1)]) dX11_meetings_3 rfl (by decide) rfl ?_
  exact m_sub [2, 3, 1, 0] rfl h
set_option maxHeartbeats 4000000 in
set_option maxRecDepth 100000 in
theorem h11_given_34 {d : Nat} {Th : mT} {Q : Int32 → mM → Prop} {a0 : Nat} {x1 : Int32} {x2 : Int32} {x3 : Int32} {x4 : Int32} {M : mM} (h : if x1 ≤ x4 then (H11_given_59 (d + 1) Th Q a0 x1 x2 x3 (-1) 0 M) else (Th.2.2 a0 = some (.inl 11) ∧ (∀ xv2 : Int32, xv2 = (x3 * ((M).1 a0 56)) → H11_given_34 (d + 1) Th Q a0 x1 x2 xv2 (x4 + 1) M))) : H11_given_34 (d + 1) Th Q a0 x1 x2 x3 x4 M := by
  show m_W (d + 1) 0 0 yX11_given cX11_given 9 (some .int) (m_qi Th Q) 34 [(0, .ref a0), (1, .int x1), (2, .int x2), (3, .int x3), (4, .int x4)] [] Th M 0 0
  refine m_iload dX11_given_34 4 rfl ?_
  refine m_iload_n dX11_given_36 rfl 1 rfl ?_
  refine m_icmp_ge (tgt := 53) dX11_given_37 (by decide) (fun c1 => ?_) (fun c1 => ?_)
  · rw [if_pos c1] at h
    refine m_iconst (v := (-1)) dX11_given_53 (by decide) ?_
    refine m_istore (lv' := [(4, .int (-1)), (0, .ref a0), (1, .int x1), (2, .int x2), (3, .int x3)]) dX11_given_54 (by decide) rfl ?_
    refine m_iconst (v := 0) dX11_given_56 (by decide) ?_
    refine m_istore (lv' := [(5, .int 0), (4, .int (-1)), (0, .ref a0), (1, .int x1), (2, .int x2), (3, .int x3)]) dX11_given_57 (by decide) rfl ?_
    exact m_sub [2, 3, 4, 5, 1, 0] rfl h
  · rw [if_neg c1] at h
    refine m_iload_n dX11_given_40 rfl 3 rfl ?_
    refine m_aload_n dX11_given_41 rfl 0 rfl ?_
    obtain ⟨q1, h⟩ := h
    refine m_geti f_X11_152 rfl dX11_given_42 q1 ?_
    refine m_imul dX11_given_45 ?_
    obtain ⟨xv2, e_xv2⟩ : ∃ xv2 : Int32, xv2 = (x3 * ((M).1 a0 56)) := ⟨_, rfl⟩
    have h := h xv2 e_xv2
    rw [← e_xv2]
    refine m_istore_n (lv' := [(3, .int xv2), (0, .ref a0), (1, .int x1), (2, .int x2), (4, .int x4)]) dX11_given_46 rfl (by decide) rfl ?_
    refine m_iinc (v := x4 + 1) (lv' := [(4, .int (x4 + 1)), (3, .int xv2), (0, .ref a0), (1, .int x1), (2, .int x2)]) dX11_given_47 4 rfl rfl (by decide) rfl ?_
    refine m_goto (tgt := 34) dX11_given_50 (by decide) ?_
    exact m_sub [2, 3, 4, 1, 0] rfl h
set_option maxHeartbeats 4000000 in
set_option maxRecDepth 100000 in
theorem h11_given_59 {d : Nat} {Th : mT} {Q : Int32 → mM → Prop} {a0 : Nat} {x1 : Int32} {x2 : Int32} {x3 : Int32} {x4 : Int32} {x5 : Int32} {M : mM} (h : if x3 ≤ x5 then (if x2 = (-1) then (Q x4 M) else (Th.2.2 a0 = some (.inl 11) ∧ (∃ r2 : Nat, M.2.2 a0 59 = some r2 ∧ (m_ok Th r2 .int x2 ∧ (Q (((M).1 r2 (Int32.toNatClampNeg x2))) M))))) else (∀ xv5 : Int32, xv5 = (x1 - 1) → H11_given_74 (d + 1) Th Q a0 x1 x2 x3 x4 x5 x5 xv5 M)) : H11_given_59 (d + 1) Th Q a0 x1 x2 x3 x4 x5 M := by
  show m_W (d + 1) 0 0 yX11_given cX11_given 9 (some .int) (m_qi Th Q) 59 [(0, .ref a0), (1, .int x1), (2, .int x2), (3, .int x3), (4, .int x4), (5, .int x5)] [] Th M 0 0
  refine m_iload dX11_given_59 5 rfl ?_
  refine m_iload_n dX11_given_61 rfl 3 rfl ?_
  refine m_icmp_ge (tgt := 170) dX11_given_62 (by decide) (fun c1 => ?_) (fun c1 => ?_)
  · rw [if_pos c1] at h
    refine m_iload_n dX11_given_170 rfl 2 rfl ?_
    refine m_iconst (v := (-1)) dX11_given_171 (by decide) ?_
    refine m_icmp_ne (tgt := 180) dX11_given_172 (by decide) (fun c1 => ?_) (fun c1 => ?_)
    · rw [if_neg c1] at h
      refine m_aload_n dX11_given_180 rfl 0 rfl ?_
      obtain ⟨q1, h⟩ := h
      obtain ⟨r2, q3, h⟩ := h
      refine m_getr f_X11_113 rfl dX11_given_181 q1 q3 ?_
      refine m_iload_n dX11_given_184 rfl 2 rfl ?_
      obtain ⟨q4, h⟩ := h
      refine m_iald dX11_given_185 q4 ?_
      exact m_ireturn dX11_given_186 rfl rfl ⟨rfl, _, rfl, h⟩
    · rw [if_pos c1] at h
      refine m_iload dX11_given_175 4 rfl ?_
      refine m_goto (tgt := 186) dX11_given_177 (by decide) ?_
      exact m_ireturn dX11_given_186 rfl rfl ⟨rfl, _, rfl, h⟩
  · rw [if_neg c1] at h
    refine m_iload dX11_given_65 5 rfl ?_
    refine m_istore (lv' := [(6, .int x5), (0, .ref a0), (1, .int x1), (2, .int x2), (3, .int x3), (4, .int x4), (5, .int x5)]) dX11_given_67 (by decide) rfl ?_
    refine m_iload_n dX11_given_69 rfl 2 rfl ?_
    refine m_iconst (v := 1) dX11_given_70 (by decide) ?_
    refine m_isub dX11_given_71 ?_
    obtain ⟨xv5, e_xv5⟩ : ∃ xv5 : Int32, xv5 = (x1 - 1) := ⟨_, rfl⟩
    have h := h xv5 e_xv5
    rw [← e_xv5]
    refine m_istore (lv' := [(7, .int xv5), (6, .int x5), (0, .ref a0), (1, .int x1), (2, .int x2), (3, .int x3), (4, .int x4), (5, .int x5)]) dX11_given_72 (by decide) rfl ?_
    exact m_sub [2, 3, 4, 5, 6, 7, 1, 0] rfl h
set_option maxHeartbeats 4000000 in
set_option maxRecDepth 100000 in
theorem h11_given_74 {d : Nat} {Th : mT} {Q : Int32 → mM → Prop} {a0 : Nat} {x1 : Int32} {x2 : Int32} {x3 : Int32} {x4 : Int32} {x5 : Int32} {x6 : Int32} {x7 : Int32} {M : mM} (h : if x7 < 0 then (Th.2.2 a0 = some (.inl 11) ∧ (P11_meetings d Th a0 x1 M (fun (v2 : Int32) (M1 : mM) => if x4 = (-1) then (H11_given_138 (d + 1) Th Q a0 x1 x2 x3 v2 x5 0 M1) else (if v2 < x4 then (H11_given_138 (d + 1) Th Q a0 x1 x2 x3 v2 x5 0 M1) else (H11_given_59 (d + 1) Th Q a0 x1 x2 x3 x4 (x5 + 1) M1))))) else (Th.2.2 a0 = some (.inl 11) ∧ (∃ r5 : Nat, M.2.2 a0 58 = some r5 ∧ (¬ (((M).1 a0 56) = 0) ∧ (m_okw Th r5 .int x7 ∧ (∀ M9 : mM, M9 = m_ui M r5 (Int32.toNatClampNeg x7) ((x6 - x6 / ((M).1 a0 56) * ((M).1 a0 56))) → ¬ (((M9).1 a0 56) = 0) ∧ (∀ xv11 : Int32, xv11 = (x6 / ((M9).1 a0 56)) → H11_given_74 (d + 1) Th Q a0 x1 x2 x3 x4 x5 xv11 (x7 + (-1)) M9))))))) : H11_given_74 (d + 1) Th Q a0 x1 x2 x3 x4 x5 x6 x7 M := by
  show m_W (d + 1) 0 0 yX11_given cX11_given 9 (some .int) (m_qi Th Q) 74 [(0, .ref a0), (1, .int x1), (2, .int x2), (3, .int x3), (4, .int x4), (5, .int x5), (6, .int x6), (7, .int x7)] [] Th M 0 0
  refine m_iload dX11_given_74 7 rfl ?_
  refine m_if_lt (tgt := 108) dX11_given_76 (by decide) (fun c1 => ?_) (fun c1 => ?_)
  · rw [if_pos c1] at h
    refine m_aload_n dX11_given_108 rfl 0 rfl ?_
    refine m_iload_n dX11_given_109 rfl 1 rfl ?_
    obtain ⟨q3, h⟩ := h
    refine m_invV (ci := 11) (As := [.int x1]) (d' := d) (mc' := 0) (ms' := 0) (rest := []) i_11_meetings v_11_meetings t_11_meetings l_X11_426 ⟨_, _, rfl⟩ dX11_given_110 rfl rfl q3 (Nat.le_of_ble_eq_true rfl) (Nat.le_refl _) ⟨Nat.le_refl _, Nat.le_refl _⟩ (m_Ci h (fun v2 M1 h => ?_))
    show m_W (d + 1) 0 0 yX11_given cX11_given 9 (some .int) (m_qi Th Q) 113 [(0, .ref a0), (1, .int x1), (2, .int x2), (3, .int x3), (4, .int x4), (5, .int x5), (6, .int x6), (7, .int x7)] [.int v2] Th M1 0 0
    refine m_istore (lv' := [(7, .int v2), (0, .ref a0), (1, .int x1), (2, .int x2), (3, .int x3), (4, .int x4), (5, .int x5), (6, .int x6)]) dX11_given_113 (by decide) rfl ?_
    refine m_iload dX11_given_115 5 rfl ?_
    refine m_iconst (v := (-1)) dX11_given_117 (by decide) ?_
    refine m_icmp_eq (tgt := 131) dX11_given_118 (by decide) (fun c1 => ?_) (fun c1 => ?_)
    · rw [if_pos c1] at h
      refine m_iload dX11_given_131 0 rfl ?_
      refine m_istore (lv' := [(4, .int v2), (7, .int v2), (0, .ref a0), (1, .int x1), (2, .int x2), (3, .int x3), (5, .int x5), (6, .int x6)]) dX11_given_133 (by decide) rfl ?_
      refine m_iconst (v := 0) dX11_given_135 (by decide) ?_
      refine m_istore (lv' := [(8, .int 0), (4, .int v2), (7, .int v2), (0, .ref a0), (1, .int x1), (2, .int x2), (3, .int x3), (5, .int x5), (6, .int x6)]) dX11_given_136 (by decide) rfl ?_
      exact m_sub [3, 4, 5, 6, 1, 7, 0] rfl h
    · rw [if_neg c1] at h
      refine m_iload dX11_given_121 0 rfl ?_
      refine m_iload dX11_given_123 5 rfl ?_
      refine m_icmp_lt (tgt := 131) dX11_given_125 (by decide) (fun c1 => ?_) (fun c1 => ?_)
      · rw [if_pos c1] at h
        refine m_iload dX11_given_131 0 rfl ?_
        refine m_istore (lv' := [(4, .int v2), (7, .int v2), (0, .ref a0), (1, .int x1), (2, .int x2), (3, .int x3), (5, .int x5), (6, .int x6)]) dX11_given_133 (by decide) rfl ?_
        refine m_iconst (v := 0) dX11_given_135 (by decide) ?_
        refine m_istore (lv' := [(8, .int 0), (4, .int v2), (7, .int v2), (0, .ref a0), (1, .int x1), (2, .int x2), (3, .int x3), (5, .int x5), (6, .int x6)]) dX11_given_136 (by decide) rfl ?_
        exact m_sub [3, 4, 5, 6, 1, 7, 0] rfl h
      · rw [if_neg c1] at h
        refine m_goto (tgt := 164) dX11_given_128 (by decide) ?_
        refine m_iinc (v := x5 + 1) (lv' := [(5, .int (x5 + 1)), (7, .int v2), (0, .ref a0), (1, .int x1), (2, .int x2), (3, .int x3), (4, .int x4), (6, .int x6)]) dX11_given_164 6 rfl rfl (by decide) rfl ?_
        refine m_goto (tgt := 59) dX11_given_167 (by decide) ?_
        exact m_sub [2, 3, 4, 5, 6, 0] rfl h
  · rw [if_neg c1] at h
    refine m_aload_n dX11_given_79 rfl 0 rfl ?_
    obtain ⟨q4, h⟩ := h
    obtain ⟨r5, q6, h⟩ := h
    refine m_getr f_X11_110 rfl dX11_given_80 q4 q6 ?_
    refine m_iload dX11_given_83 7 rfl ?_
    refine m_iload dX11_given_85 6 rfl ?_
    refine m_aload_n dX11_given_87 rfl 0 rfl ?_
    refine m_geti f_X11_152 rfl dX11_given_88 q4 ?_
    obtain ⟨q7, h⟩ := h
    refine m_irem dX11_given_91 q7 ?_
    obtain ⟨q8, h⟩ := h
    refine m_iast dX11_given_92 q8 ?_
    refine m_iload dX11_given_93 6 rfl ?_
    refine m_aload_n dX11_given_95 rfl 0 rfl ?_
    obtain ⟨M9, e_M9⟩ : ∃ M9 : mM, M9 = m_ui M r5 (Int32.toNatClampNeg x7) ((x6 - x6 / ((M).1 a0 56) * ((M).1 a0 56))) := ⟨_, rfl⟩
    have h := h M9 e_M9
    rw [← e_M9]
    refine m_geti f_X11_152 rfl dX11_given_96 q4 ?_
    obtain ⟨q10, h⟩ := h
    refine m_idiv dX11_given_99 q10 ?_
    obtain ⟨xv11, e_xv11⟩ : ∃ xv11 : Int32, xv11 = (x6 / ((M9).1 a0 56)) := ⟨_, rfl⟩
    have h := h xv11 e_xv11
    rw [← e_xv11]
    refine m_istore (lv' := [(6, .int xv11), (0, .ref a0), (1, .int x1), (2, .int x2), (3, .int x3), (4, .int x4), (5, .int x5), (7, .int x7)]) dX11_given_100 (by decide) rfl ?_
    refine m_iinc (v := x7 + (-1)) (lv' := [(7, .int (x7 + (-1))), (6, .int xv11), (0, .ref a0), (1, .int x1), (2, .int x2), (3, .int x3), (4, .int x4), (5, .int x5)]) dX11_given_102 7 rfl rfl (by decide) rfl ?_
    refine m_goto (tgt := 74) dX11_given_105 (by decide) ?_
    exact m_sub [2, 3, 4, 5, 6, 7, 1, 0] rfl h
set_option maxHeartbeats 4000000 in
set_option maxRecDepth 100000 in
theorem h11_given_138 {d : Nat} {Th : mT} {Q : Int32 → mM → Prop} {a0 : Nat} {x1 : Int32} {x2 : Int32} {x3 : Int32} {x4 : Int32} {x5 : Int32} {x8 : Int32} {M : mM} (h : if x1 ≤ x8 then (H11_given_59 (d + 1) Th Q a0 x1 x2 x3 x4 (x5 + 1) M) else (Th.2.2 a0 = some (.inl 11) ∧ (∃ r2 : Nat, M.2.2 a0 59 = some r2 ∧ (∃ r4 : Nat, M.2.2 a0 58 = some r4 ∧ (m_ok Th r4 .int x8 ∧ (m_okw Th r2 .int x8 ∧ (H11_given_138 (d + 1) Th Q a0 x1 x2 x3 x4 x5 (x8 + 1) (m_ui M r2 (Int32.toNatClampNeg x8) (((M).1 r4 (Int32.toNatClampNeg x8))))))))))) : H11_given_138 (d + 1) Th Q a0 x1 x2 x3 x4 x5 x8 M := by
  show m_W (d + 1) 0 0 yX11_given cX11_given 9 (some .int) (m_qi Th Q) 138 [(0, .ref a0), (1, .int x1), (2, .int x2), (3, .int x3), (4, .int x4), (5, .int x5), (8, .int x8)] [] Th M 0 0
  refine m_iload dX11_given_138 6 rfl ?_
  refine m_iload_n dX11_given_140 rfl 1 rfl ?_
  refine m_icmp_ge (tgt := 164) dX11_given_141 (by decide) (fun c1 => ?_) (fun c1 => ?_)
  · rw [if_pos c1] at h
    refine m_iinc (v := x5 + 1) (lv' := [(5, .int (x5 + 1)), (0, .ref a0), (1, .int x1), (2, .int x2), (3, .int x3), (4, .int x4), (8, .int x8)]) dX11_given_164 5 rfl rfl (by decide) rfl ?_
    refine m_goto (tgt := 59) dX11_given_167 (by decide) ?_
    exact m_sub [1, 2, 3, 4, 5, 0] rfl h
  · rw [if_neg c1] at h
    refine m_aload_n dX11_given_144 rfl 0 rfl ?_
    obtain ⟨q1, h⟩ := h
    obtain ⟨r2, q3, h⟩ := h
    refine m_getr f_X11_113 rfl dX11_given_145 q1 q3 ?_
    refine m_iload dX11_given_148 6 rfl ?_
    refine m_aload_n dX11_given_150 rfl 0 rfl ?_
    obtain ⟨r4, q5, h⟩ := h
    refine m_getr f_X11_110 rfl dX11_given_151 q1 q5 ?_
    refine m_iload dX11_given_154 6 rfl ?_
    obtain ⟨q6, h⟩ := h
    refine m_iald dX11_given_156 q6 ?_
    obtain ⟨q7, h⟩ := h
    refine m_iast dX11_given_157 q7 ?_
    refine m_iinc (v := x8 + 1) (lv' := [(8, .int (x8 + 1)), (0, .ref a0), (1, .int x1), (2, .int x2), (3, .int x3), (4, .int x4), (5, .int x5)]) dX11_given_158 6 rfl rfl (by decide) rfl ?_
    refine m_goto (tgt := 138) dX11_given_161 (by decide) ?_
    exact m_sub [1, 2, 3, 4, 5, 6, 0] rfl h
set_option maxHeartbeats 4000000 in
set_option maxRecDepth 100000 in
theorem e11_given {d : Nat} {Th : mT} {Q : Int32 → mM → Prop} {a0 : Nat} {x1 : Int32} {x2 : Int32} {M : mM} (h : P11_in d Th x1 2 5 M (fun (v2 : Int32) (M1 : mM) => if v2 = 0 then (Q (-1) M1) else (Th.2.2 a0 = some (.inl 11) ∧ (if ((M1).1 a0 56) = 0 then (Q (-1) M1) else (P11_in d Th x2 (-1) ((x1 - 1)) M1 (fun (v5 : Int32) (M4 : mM) => if v5 = 0 then (Q (-1) M4) else (H11_given_34 (d + 1) Th Q a0 x1 x2 1 0 M4))))))) : P11_given (d + 1) Th a0 x1 x2 M Q := by
  refine m_C.of (by decide +kernel) (Nat.le_of_ble_eq_true rfl) ?_
  show m_W (d + 1) 0 0 yX11_given cX11_given 9 (some .int) (m_qi Th Q) 0 [(0, .ref a0), (1, .int x1), (2, .int x2)] [] Th M 0 0
  refine m_iload_n dX11_given_0 rfl 1 rfl ?_
  refine m_iconst (v := 2) dX11_given_1 (by decide) ?_
  refine m_iconst (v := 5) dX11_given_2 (by decide) ?_
  refine m_invS (As := [.int x1, .int 2, .int 5]) (d' := d) (mc' := 0) (ms' := 0) (rest := []) i_11_in s_11_in l_X11_148 dX11_given_3 rfl rfl (Nat.le_of_ble_eq_true rfl) (Nat.le_refl _) ⟨Nat.le_refl _, Nat.le_refl _⟩ (m_Ci h (fun v2 M1 h => ?_))
  show m_W (d + 1) 0 0 yX11_given cX11_given 9 (some .int) (m_qi Th Q) 6 [(0, .ref a0), (1, .int x1), (2, .int x2)] [.int v2] Th M1 0 0
  refine m_if_eq (tgt := 27) dX11_given_6 (by decide) (fun c1 => ?_) (fun c1 => ?_)
  · rw [if_pos c1] at h
    refine m_iconst (v := (-1)) dX11_given_27 (by decide) ?_
    exact m_ireturn dX11_given_28 rfl rfl ⟨rfl, _, rfl, h⟩
  · rw [if_neg c1] at h
    refine m_aload_n dX11_given_9 rfl 0 rfl ?_
    obtain ⟨q3, h⟩ := h
    refine m_geti f_X11_152 rfl dX11_given_10 q3 ?_
    refine m_if_eq (tgt := 27) dX11_given_13 (by decide) (fun c1 => ?_) (fun c1 => ?_)
    · rw [if_pos c1] at h
      refine m_iconst (v := (-1)) dX11_given_27 (by decide) ?_
      exact m_ireturn dX11_given_28 rfl rfl ⟨rfl, _, rfl, h⟩
    · rw [if_neg c1] at h
      refine m_iload_n dX11_given_16 rfl 2 rfl ?_
      refine m_iconst (v := (-1)) dX11_given_17 (by decide) ?_
      refine m_iload_n dX11_given_18 rfl 1 rfl ?_
      refine m_iconst (v := 1) dX11_given_19 (by decide) ?_
      refine m_isub dX11_given_20 ?_
      refine m_invS (As := [.int x2, .int (-1), .int ((x1 - 1))]) (d' := d) (mc' := 0) (ms' := 0) (rest := []) i_11_in s_11_in l_X11_148 dX11_given_21 rfl rfl (Nat.le_of_ble_eq_true rfl) (Nat.le_refl _) ⟨Nat.le_refl _, Nat.le_refl _⟩ (m_Ci h (fun v5 M4 h => ?_))
      show m_W (d + 1) 0 0 yX11_given cX11_given 9 (some .int) (m_qi Th Q) 24 [(0, .ref a0), (1, .int x1), (2, .int x2)] [.int v5] Th M4 0 0
      refine m_if_ne (tgt := 29) dX11_given_24 (by decide) (fun c1 => ?_) (fun c1 => ?_)
      · rw [if_neg c1] at h
        refine m_iconst (v := 1) dX11_given_29 (by decide) ?_
        refine m_istore_n (lv' := [(3, .int 1), (0, .ref a0), (1, .int x1), (2, .int x2)]) dX11_given_30 rfl (by decide) rfl ?_
        refine m_iconst (v := 0) dX11_given_31 (by decide) ?_
        refine m_istore (lv' := [(4, .int 0), (3, .int 1), (0, .ref a0), (1, .int x1), (2, .int x2)]) dX11_given_32 (by decide) rfl ?_
        exact m_sub [2, 3, 4, 1, 0] rfl h
      · rw [if_pos c1] at h
        refine m_iconst (v := (-1)) dX11_given_27 (by decide) ?_
        exact m_ireturn dX11_given_28 rfl rfl ⟨rfl, _, rfl, h⟩
set_option maxHeartbeats 4000000 in
set_option maxRecDepth 100000 in
theorem h11_cleverest_31 {d : Nat} {Th : mT} {Q : Int64 → mM → Prop} {a0 : Nat} {x1 : Int32} {x2 : Int32} {x3 : Int32} {x4 : Int32} {l5 : Int64} {x7 : Int32} {M : mM} (h : Th.2.2 a0 = some (.inl 11) ∧ (if ((M).1 a0 0) < x7 then (P11_eights d Th 20 M (fun (v3 : Int64) (M2 : mM) => if x3 = 0 then (Q ((x4 : Int32).toInt64) M2) else (if x3 = 1 then (P11_gcd d Th l5 v3 M2 (fun (v5 : Int64) (M4 : mM) => ¬ (v5 = 0) ∧ (Q ((l5 / v5)) M4))) else (P11_gcd d Th l5 v3 M2 (fun (v8 : Int64) (M7 : mM) => ¬ (v8 = 0) ∧ (Q ((v3 / v8)) M7)))))) else (P11_races d Th a0 x1 x2 x7 M (fun M10 : mM => if x4 ≤ 0 then (H11_cleverest_66 (d + 1) Th Q a0 x1 x2 x3 x7 M10) else (if 0 < (lg_cmp (((M10).2.1 a0 42)) l5) then (H11_cleverest_66 (d + 1) Th Q a0 x1 x2 x3 x7 M10) else (H11_cleverest_31 (d + 1) Th Q a0 x1 x2 x3 x4 l5 (x7 + 1) M10)))))) : H11_cleverest_31 (d + 1) Th Q a0 x1 x2 x3 x4 l5 x7 M := by
  show m_W (d + 1) 0 0 yX11_cleverest cX11_cleverest 9 (some .long) (m_ql Th Q) 31 [(0, .ref a0), (1, .int x1), (2, .int x2), (3, .int x3), (4, .int x4), (5, .long l5), (7, .int x7)] [] Th M 0 0
  refine m_iload dX11_cleverest_31 6 rfl ?_
  refine m_aload_n dX11_cleverest_33 rfl 0 rfl ?_
  obtain ⟨q1, h⟩ := h
  refine m_geti f_X11_141 rfl dX11_cleverest_34 q1 ?_
  refine m_icmp_gt (tgt := 82) dX11_cleverest_37 (by decide) (fun c1 => ?_) (fun c1 => ?_)
  · rw [if_pos c1] at h
    refine m_bipush (v := 20) dX11_cleverest_82 (by decide) ?_
    refine m_invS (As := [.int 20]) (d' := d) (mc' := 0) (ms' := 0) (rest := []) i_11_eights s_11_eights l_X11_313 dX11_cleverest_84 rfl rfl (Nat.le_of_ble_eq_true rfl) (Nat.le_refl _) ⟨Nat.le_refl _, Nat.le_refl _⟩ (m_Cl h (fun v3 M2 h => ?_))
    show m_W (d + 1) 0 0 yX11_cleverest cX11_cleverest 9 (some .long) (m_ql Th Q) 87 [(0, .ref a0), (1, .int x1), (2, .int x2), (3, .int x3), (4, .int x4), (5, .long l5), (7, .int x7)] [.long v3] Th M2 0 0
    refine m_lstore (lv' := [(7, .long v3), (0, .ref a0), (1, .int x1), (2, .int x2), (3, .int x3), (4, .int x4), (5, .long l5)]) dX11_cleverest_87 (by decide) rfl ?_
    refine m_iload_n dX11_cleverest_89 rfl 4 rfl ?_
    refine m_if_ne (tgt := 99) dX11_cleverest_90 (by decide) (fun c1 => ?_) (fun c1 => ?_)
    · rw [if_neg c1] at h
      refine m_iload_n dX11_cleverest_99 rfl 4 rfl ?_
      refine m_iconst (v := 1) dX11_cleverest_100 (by decide) ?_
      refine m_icmp_ne (tgt := 117) dX11_cleverest_101 (by decide) (fun c1 => ?_) (fun c1 => ?_)
      · rw [if_neg c1] at h
        refine m_lload dX11_cleverest_117 0 rfl ?_
        refine m_lload dX11_cleverest_119 6 rfl ?_
        refine m_lload dX11_cleverest_121 0 rfl ?_
        refine m_invS (As := [.long l5, .long v3]) (d' := d) (mc' := 0) (ms' := 0) (rest := [.long v3]) i_11_gcd s_11_gcd l_X11_330 dX11_cleverest_123 rfl rfl (Nat.le_of_ble_eq_true rfl) (Nat.le_refl _) ⟨Nat.le_refl _, Nat.le_refl _⟩ (m_Cl h (fun v8 M7 h => ?_))
        show m_W (d + 1) 0 0 yX11_cleverest cX11_cleverest 9 (some .long) (m_ql Th Q) 126 [(7, .long v3), (0, .ref a0), (1, .int x1), (2, .int x2), (3, .int x3), (4, .int x4), (5, .long l5)] [.long v8, .long v3] Th M7 0 0
        obtain ⟨q9, h⟩ := h
        refine m_ldiv dX11_cleverest_126 q9 ?_
        exact m_lreturn dX11_cleverest_127 rfl ⟨rfl, _, rfl, h⟩
      · rw [if_pos c1] at h
        refine m_lload dX11_cleverest_104 6 rfl ?_
        refine m_lload dX11_cleverest_106 6 rfl ?_
        refine m_lload dX11_cleverest_108 0 rfl ?_
        refine m_invS (As := [.long l5, .long v3]) (d' := d) (mc' := 0) (ms' := 0) (rest := [.long l5]) i_11_gcd s_11_gcd l_X11_330 dX11_cleverest_110 rfl rfl (Nat.le_of_ble_eq_true rfl) (Nat.le_refl _) ⟨Nat.le_refl _, Nat.le_refl _⟩ (m_Cl h (fun v5 M4 h => ?_))
        show m_W (d + 1) 0 0 yX11_cleverest cX11_cleverest 9 (some .long) (m_ql Th Q) 113 [(7, .long v3), (0, .ref a0), (1, .int x1), (2, .int x2), (3, .int x3), (4, .int x4), (5, .long l5)] [.long v5, .long l5] Th M4 0 0
        obtain ⟨q6, h⟩ := h
        refine m_ldiv dX11_cleverest_113 q6 ?_
        refine m_goto (tgt := 127) dX11_cleverest_114 (by decide) ?_
        exact m_lreturn dX11_cleverest_127 rfl ⟨rfl, _, rfl, h⟩
    · rw [if_pos c1] at h
      refine m_iload dX11_cleverest_93 5 rfl ?_
      refine m_i2l dX11_cleverest_95 ?_
      refine m_goto (tgt := 127) dX11_cleverest_96 (by decide) ?_
      exact m_lreturn dX11_cleverest_127 rfl ⟨rfl, _, rfl, h⟩
  · rw [if_neg c1] at h
    refine m_aload_n dX11_cleverest_40 rfl 0 rfl ?_
    refine m_iload_n dX11_cleverest_41 rfl 1 rfl ?_
    refine m_iload_n dX11_cleverest_42 rfl 2 rfl ?_
    refine m_iload dX11_cleverest_43 6 rfl ?_
    refine m_invV (ci := 11) (As := [.int x1, .int x2, .int x7]) (d' := d) (mc' := 0) (ms' := 0) (rest := []) i_11_races v_11_races t_11_races l_X11_326 ⟨_, _, rfl⟩ dX11_cleverest_45 rfl rfl q1 (Nat.le_of_ble_eq_true rfl) (Nat.le_refl _) ⟨Nat.le_refl _, Nat.le_refl _⟩ (m_Cv h (fun M10 h => ?_))
    show m_W (d + 1) 0 0 yX11_cleverest cX11_cleverest 9 (some .long) (m_ql Th Q) 48 [(0, .ref a0), (1, .int x1), (2, .int x2), (3, .int x3), (4, .int x4), (5, .long l5), (7, .int x7)] [] Th M10 0 0
    refine m_iload dX11_cleverest_48 4 rfl ?_
    refine m_if_le (tgt := 66) dX11_cleverest_50 (by decide) (fun c1 => ?_) (fun c1 => ?_)
    · rw [if_pos c1] at h
      exact m_sub [0, 1, 2, 3, 6] rfl h
    · rw [if_neg c1] at h
      refine m_aload_n dX11_cleverest_53 rfl 0 rfl ?_
      refine m_getl f_X11_317 dX11_cleverest_54 q1 ?_
      refine m_lload dX11_cleverest_57 5 rfl ?_
      refine m_lcmp dX11_cleverest_59 ?_
      refine m_if_gt (tgt := 66) dX11_cleverest_60 (by decide) (fun c1 => ?_) (fun c1 => ?_)
      · rw [if_pos c1] at h
        exact m_sub [0, 1, 2, 3, 6] rfl h
      · rw [if_neg c1] at h
        refine m_goto (tgt := 76) dX11_cleverest_63 (by decide) ?_
        refine m_iinc (v := x7 + 1) (lv' := [(7, .int (x7 + 1)), (0, .ref a0), (1, .int x1), (2, .int x2), (3, .int x3), (4, .int x4), (5, .long l5)]) dX11_cleverest_76 6 rfl rfl (by decide) rfl ?_
        refine m_goto (tgt := 31) dX11_cleverest_79 (by decide) ?_
        exact m_sub [1, 2, 3, 4, 5, 6, 0] rfl h
set_option maxHeartbeats 4000000 in
set_option maxRecDepth 100000 in
theorem h11_cleverest_66 {d : Nat} {Th : mT} {Q : Int64 → mM → Prop} {a0 : Nat} {x1 : Int32} {x2 : Int32} {x3 : Int32} {x7 : Int32} {M : mM} (h : Th.2.2 a0 = some (.inl 11) ∧ (∀ lv2 : Int64, lv2 = ((M).2.1 a0 42) → H11_cleverest_31 (d + 1) Th Q a0 x1 x2 x3 x7 lv2 (x7 + 1) M)) : H11_cleverest_66 (d + 1) Th Q a0 x1 x2 x3 x7 M := by
  show m_W (d + 1) 0 0 yX11_cleverest cX11_cleverest 9 (some .long) (m_ql Th Q) 66 [(0, .ref a0), (1, .int x1), (2, .int x2), (3, .int x3), (7, .int x7)] [] Th M 0 0
  refine m_iload dX11_cleverest_66 4 rfl ?_
  refine m_istore (lv' := [(4, .int x7), (0, .ref a0), (1, .int x1), (2, .int x2), (3, .int x3), (7, .int x7)]) dX11_cleverest_68 (by decide) rfl ?_
  refine m_aload_n dX11_cleverest_70 rfl 1 rfl ?_
  obtain ⟨q1, h⟩ := h
  refine m_getl f_X11_317 dX11_cleverest_71 q1 ?_
  obtain ⟨lv2, e_lv2⟩ : ∃ lv2 : Int64, lv2 = ((M).2.1 a0 42) := ⟨_, rfl⟩
  have h := h lv2 e_lv2
  rw [← e_lv2]
  refine m_lstore (lv' := [(5, .long lv2), (4, .int x7), (0, .ref a0), (1, .int x1), (2, .int x2), (3, .int x3), (7, .int x7)]) dX11_cleverest_74 (by decide) rfl ?_
  refine m_iinc (v := x7 + 1) (lv' := [(7, .int (x7 + 1)), (5, .long lv2), (4, .int x7), (0, .ref a0), (1, .int x1), (2, .int x2), (3, .int x3)]) dX11_cleverest_76 6 rfl rfl (by decide) rfl ?_
  refine m_goto (tgt := 31) dX11_cleverest_79 (by decide) ?_
  exact m_sub [3, 4, 5, 6, 2, 1, 0] rfl h
set_option maxHeartbeats 4000000 in
set_option maxRecDepth 100000 in
theorem e11_cleverest {d : Nat} {Th : mT} {Q : Int64 → mM → Prop} {a0 : Nat} {x1 : Int32} {x2 : Int32} {x3 : Int32} {M : mM} (h : Th.2.2 a0 = some (.inl 11) ∧ (P11_areTwo d Th a0 x1 x2 M (fun (v2 : Int32) (M1 : mM) => if v2 = 0 then (Q (-1) M1) else (P11_in d Th x3 0 2 M1 (fun (v5 : Int32) (M4 : mM) => if v5 = 0 then (Q (-1) M4) else (H11_cleverest_31 (d + 1) Th Q a0 x1 x2 x3 0 0 1 M4)))))) : P11_cleverest (d + 1) Th a0 x1 x2 x3 M Q := by
  refine m_C.of (by decide +kernel) (Nat.le_of_ble_eq_true rfl) ?_
  show m_W (d + 1) 0 0 yX11_cleverest cX11_cleverest 9 (some .long) (m_ql Th Q) 0 [(0, .ref a0), (1, .int x1), (2, .int x2), (3, .int x3)] [] Th M 0 0
  refine m_aload_n dX11_cleverest_0 rfl 0 rfl ?_
  refine m_iload_n dX11_cleverest_1 rfl 1 rfl ?_
  refine m_iload_n dX11_cleverest_2 rfl 2 rfl ?_
  obtain ⟨q3, h⟩ := h
  refine m_invV (ci := 11) (As := [.int x1, .int x2]) (d' := d) (mc' := 0) (ms' := 0) (rest := []) i_11_areTwo v_11_areTwo t_11_areTwo l_X11_323 ⟨_, _, rfl⟩ dX11_cleverest_3 rfl rfl q3 (Nat.le_of_ble_eq_true rfl) (Nat.le_refl _) ⟨Nat.le_refl _, Nat.le_refl _⟩ (m_Ci h (fun v2 M1 h => ?_))
  show m_W (d + 1) 0 0 yX11_cleverest cX11_cleverest 9 (some .long) (m_ql Th Q) 6 [(0, .ref a0), (1, .int x1), (2, .int x2), (3, .int x3)] [.int v2] Th M1 0 0
  refine m_if_eq (tgt := 18) dX11_cleverest_6 (by decide) (fun c1 => ?_) (fun c1 => ?_)
  · rw [if_pos c1] at h
    refine m_ldc2 k_X11_308 dX11_cleverest_18 ?_
    exact m_lreturn dX11_cleverest_21 rfl ⟨rfl, _, rfl, h⟩
  · rw [if_neg c1] at h
    refine m_iload_n dX11_cleverest_9 rfl 3 rfl ?_
    refine m_iconst (v := 0) dX11_cleverest_10 (by decide) ?_
    refine m_iconst (v := 2) dX11_cleverest_11 (by decide) ?_
    refine m_invS (As := [.int x3, .int 0, .int 2]) (d' := d) (mc' := 0) (ms' := 0) (rest := []) i_11_in s_11_in l_X11_148 dX11_cleverest_12 rfl rfl (Nat.le_of_ble_eq_true rfl) (Nat.le_refl _) ⟨Nat.le_refl _, Nat.le_refl _⟩ (m_Ci h (fun v5 M4 h => ?_))
    show m_W (d + 1) 0 0 yX11_cleverest cX11_cleverest 9 (some .long) (m_ql Th Q) 15 [(0, .ref a0), (1, .int x1), (2, .int x2), (3, .int x3)] [.int v5] Th M4 0 0
    refine m_if_ne (tgt := 22) dX11_cleverest_15 (by decide) (fun c1 => ?_) (fun c1 => ?_)
    · rw [if_neg c1] at h
      refine m_iconst (v := 0) dX11_cleverest_22 (by decide) ?_
      refine m_istore (lv' := [(4, .int 0), (0, .ref a0), (1, .int x1), (2, .int x2), (3, .int x3)]) dX11_cleverest_23 (by decide) rfl ?_
      refine m_lconst (v := 0) dX11_cleverest_25 (by decide) ?_
      refine m_lstore (lv' := [(5, .long 0), (4, .int 0), (0, .ref a0), (1, .int x1), (2, .int x2), (3, .int x3)]) dX11_cleverest_26 (by decide) rfl ?_
      refine m_iconst (v := 1) dX11_cleverest_28 (by decide) ?_
      refine m_istore (lv' := [(7, .int 1), (5, .long 0), (4, .int 0), (0, .ref a0), (1, .int x1), (2, .int x2), (3, .int x3)]) dX11_cleverest_29 (by decide) rfl ?_
      exact m_sub [3, 4, 5, 6, 2, 1, 0] rfl h
    · rw [if_pos c1] at h
      refine m_ldc2 k_X11_308 dX11_cleverest_18 ?_
      exact m_lreturn dX11_cleverest_21 rfl ⟨rfl, _, rfl, h⟩
set_option maxHeartbeats 4000000 in
set_option maxRecDepth 100000 in
theorem e11_clears {d : Nat} {Th : mT} {Q : Int32 → mM → Prop} {a0 : Nat} {M : mM} (h : Th.2.2 a0 = some (.inl 11) ∧ (∀ xv2 : Int32, xv2 = ((M).1 a0 60) → ∀ M3 : mM, M3 = m_ui M a0 60 0 → Q xv2 (m_ui M3 a0 61 0))) : P11_clears (d + 1) Th a0 M Q := by
  refine m_C.of (by decide +kernel) (Nat.le_of_ble_eq_true rfl) ?_
  show m_W (d + 1) 0 0 yX11_clears cX11_clears 2 (some .int) (m_qi Th Q) 0 [(0, .ref a0)] [] Th M 0 0
  refine m_aload_n dX11_clears_0 rfl 0 rfl ?_
  obtain ⟨q1, h⟩ := h
  refine m_geti f_X11_429 rfl dX11_clears_1 q1 ?_
  obtain ⟨xv2, e_xv2⟩ : ∃ xv2 : Int32, xv2 = ((M).1 a0 60) := ⟨_, rfl⟩
  have h := h xv2 e_xv2
  rw [← e_xv2]
  refine m_istore_n (lv' := [(1, .int xv2), (0, .ref a0)]) dX11_clears_4 rfl (by decide) rfl ?_
  refine m_aload_n dX11_clears_5 rfl 1 rfl ?_
  refine m_iconst (v := 0) dX11_clears_6 (by decide) ?_
  refine m_puti f_X11_429 rfl (Or.inl rfl) dX11_clears_7 q1 ⟨rfl, rfl⟩ ?_
  refine m_aload_n dX11_clears_10 rfl 1 rfl ?_
  refine m_iconst (v := 0) dX11_clears_11 (by decide) ?_
  obtain ⟨M3, e_M3⟩ : ∃ M3 : mM, M3 = m_ui M a0 60 0 := ⟨_, rfl⟩
  have h := h M3 e_M3
  rw [← e_M3]
  refine m_puti f_X11_432 rfl (Or.inl rfl) dX11_clears_12 q1 ⟨by decide, by decide⟩ ?_
  refine m_iload_n dX11_clears_15 rfl 0 rfl ?_
  exact m_ireturn dX11_clears_16 rfl rfl ⟨rfl, _, rfl, h⟩
set_option maxHeartbeats 4000000 in
set_option maxRecDepth 100000 in
theorem e11_clear {d : Nat} {Th : mT} {Q : Int32 → mM → Prop} {a0 : Nat} {M : mM} (h : Th.2.2 a0 = some (.inl 11) ∧ (P11_clears d Th a0 M (fun (v2 : Int32) (M1 : mM) => Q v2 M1))) : P11_clear (d + 1) Th a0 M Q := by
  refine m_C.of (by decide +kernel) (Nat.le_of_ble_eq_true rfl) ?_
  show m_W (d + 1) 0 0 yX11_clear cX11_clear 1 (some .int) (m_qi Th Q) 0 [(0, .ref a0)] [] Th M 0 0
  refine m_aload_n dX11_clear_0 rfl 0 rfl ?_
  obtain ⟨q3, h⟩ := h
  refine m_invV (ci := 11) (As := []) (d' := d) (mc' := 0) (ms' := 0) (rest := []) i_11_clears v_11_clears t_11_clears l_X11_155 ⟨_, _, rfl⟩ dX11_clear_1 rfl rfl q3 (Nat.le_of_ble_eq_true rfl) (Nat.le_refl _) ⟨Nat.le_refl _, Nat.le_refl _⟩ (m_Ci h (fun v2 M1 h => ?_))
  show m_W (d + 1) 0 0 yX11_clear cX11_clear 1 (some .int) (m_qi Th Q) 4 [(0, .ref a0)] [.int v2] Th M1 0 0
  exact m_ireturn dX11_clear_4 rfl rfl ⟨rfl, _, rfl, h⟩
set_option maxHeartbeats 4000000 in
set_option maxRecDepth 100000 in
theorem e11_puts {d : Nat} {Th : mT} {Q : mM → Prop} {a0 : Nat} {x1 : Int32} {x2 : Int32} {x3 : Int32} {M : mM} (h : Th.2.2 a0 = some (.inl 11) ∧ (∃ r2 : Nat, M.2.2 a0 62 = some r2 ∧ (m_okw Th r2 .int (((M).1 a0 60)) ∧ (∃ r5 : Nat, M.2.2 a0 63 = some r5 ∧ (∀ M7 : mM, M7 = m_ui M r2 (Int32.toNatClampNeg (((M).1 a0 60))) x1 → m_okw Th r5 .int (((M7).1 a0 60)) ∧ (∃ r9 : Nat, M.2.2 a0 64 = some r9 ∧ (∀ M11 : mM, M11 = m_ui M7 r5 (Int32.toNatClampNeg (((M7).1 a0 60))) x2 → m_okw Th r9 .int (((M11).1 a0 60)) ∧ (∀ M13 : mM, M13 = m_ui M11 r9 (Int32.toNatClampNeg (((M11).1 a0 60))) x3 → Q (m_ui M13 a0 60 ((((M13).1 a0 60) + 1))))))))))) : P11_puts (d + 1) Th a0 x1 x2 x3 M Q := by
  refine m_C.of (by decide +kernel) (Nat.le_of_ble_eq_true rfl) ?_
  show m_W (d + 1) 0 0 yX11_puts cX11_puts 4 none (m_qv Th Q) 0 [(0, .ref a0), (1, .int x1), (2, .int x2), (3, .int x3)] [] Th M 0 0
  refine m_aload_n dX11_puts_0 rfl 0 rfl ?_
  obtain ⟨q1, h⟩ := h
  obtain ⟨r2, q3, h⟩ := h
  refine m_getr f_X11_116 rfl dX11_puts_1 q1 q3 ?_
  refine m_aload_n dX11_puts_4 rfl 0 rfl ?_
  refine m_geti f_X11_429 rfl dX11_puts_5 q1 ?_
  refine m_iload_n dX11_puts_8 rfl 1 rfl ?_
  obtain ⟨q4, h⟩ := h
  refine m_iast dX11_puts_9 q4 ?_
  refine m_aload_n dX11_puts_10 rfl 0 rfl ?_
  obtain ⟨r5, q6, h⟩ := h
  refine m_getr f_X11_119 rfl dX11_puts_11 q1 q6 ?_
  refine m_aload_n dX11_puts_14 rfl 0 rfl ?_
  obtain ⟨M7, e_M7⟩ : ∃ M7 : mM, M7 = m_ui M r2 (Int32.toNatClampNeg (((M).1 a0 60))) x1 := ⟨_, rfl⟩
  have h := h M7 e_M7
  rw [← e_M7]
  refine m_geti f_X11_429 rfl dX11_puts_15 q1 ?_
  refine m_iload_n dX11_puts_18 rfl 2 rfl ?_
  obtain ⟨q8, h⟩ := h
  refine m_iast dX11_puts_19 q8 ?_
  refine m_aload_n dX11_puts_20 rfl 0 rfl ?_
  obtain ⟨r9, q10, h⟩ := h
  refine m_getr f_X11_122 rfl dX11_puts_21 q1 (by rw [e_M7]; exact q10) ?_
  refine m_aload_n dX11_puts_24 rfl 0 rfl ?_
  obtain ⟨M11, e_M11⟩ : ∃ M11 : mM, M11 = m_ui M7 r5 (Int32.toNatClampNeg (((M7).1 a0 60))) x2 := ⟨_, rfl⟩
  have h := h M11 e_M11
  rw [← e_M11]
  refine m_geti f_X11_429 rfl dX11_puts_25 q1 ?_
  refine m_iload_n dX11_puts_28 rfl 3 rfl ?_
  obtain ⟨q12, h⟩ := h
  refine m_iast dX11_puts_29 q12 ?_
  refine m_aload_n dX11_puts_30 rfl 0 rfl ?_
  refine m_aload_n dX11_puts_31 rfl 0 rfl ?_
  obtain ⟨M13, e_M13⟩ : ∃ M13 : mM, M13 = m_ui M11 r9 (Int32.toNatClampNeg (((M11).1 a0 60))) x3 := ⟨_, rfl⟩
  have h := h M13 e_M13
  rw [← e_M13]
  refine m_geti f_X11_429 rfl dX11_puts_32 q1 ?_
  refine m_iconst (v := 1) dX11_puts_35 (by decide) ?_
  refine m_iadd dX11_puts_36 ?_
  refine m_puti f_X11_429 rfl (Or.inl rfl) dX11_puts_37 q1 ⟨rfl, rfl⟩ ?_
  exact m_return dX11_puts_40 rfl ⟨rfl, rfl, h⟩
set_option maxHeartbeats 4000000 in
set_option maxRecDepth 100000 in
theorem h11_went_39 {d : Nat} {Th : mT} {Q : Int32 → mM → Prop} {a0 : Nat} {x1 : Int32} {x2 : Int32} {x3 : Int32} {s0 : Int32} {s1 : Int32} {M : mM} (h : P11_in d Th s1 s0 10 M (fun (v2 : Int32) (M1 : mM) => if v2 = 0 then (Q (-1) M1) else (Th.2.2 a0 = some (.inl 11) ∧ (if ((M1).1 a0 60) = 40 then (Q (-1) M1) else (H11_went_61 (d + 1) Th Q a0 x1 x2 x3 0 M1))))) : H11_went_39 (d + 1) Th Q a0 x1 x2 x3 s0 s1 M := by
  show m_W (d + 1) 0 0 yX11_went cX11_went 5 (some .int) (m_qi Th Q) 39 [(0, .ref a0), (1, .int x1), (2, .int x2), (3, .int x3)] [.int s0, .int s1] Th M 0 0
  refine m_bipush (v := 10) dX11_went_39 (by decide) ?_
  refine m_invS (As := [.int s1, .int s0, .int 10]) (d' := d) (mc' := 0) (ms' := 0) (rest := []) i_11_in s_11_in l_X11_148 dX11_went_41 rfl rfl (Nat.le_of_ble_eq_true rfl) (Nat.le_refl _) ⟨Nat.le_refl _, Nat.le_refl _⟩ (m_Ci h (fun v2 M1 h => ?_))
  show m_W (d + 1) 0 0 yX11_went cX11_went 5 (some .int) (m_qi Th Q) 44 [(0, .ref a0), (1, .int x1), (2, .int x2), (3, .int x3)] [.int v2] Th M1 0 0
  refine m_if_eq (tgt := 56) dX11_went_44 (by decide) (fun c1 => ?_) (fun c1 => ?_)
  · rw [if_pos c1] at h
    refine m_iconst (v := (-1)) dX11_went_56 (by decide) ?_
    exact m_ireturn dX11_went_57 rfl rfl ⟨rfl, _, rfl, h⟩
  · rw [if_neg c1] at h
    refine m_aload_n dX11_went_47 rfl 0 rfl ?_
    obtain ⟨q3, h⟩ := h
    refine m_geti f_X11_429 rfl dX11_went_48 q3 ?_
    refine m_bipush (v := 40) dX11_went_51 (by decide) ?_
    refine m_icmp_ne (tgt := 58) dX11_went_53 (by decide) (fun c1 => ?_) (fun c1 => ?_)
    · rw [if_neg c1] at h
      refine m_iconst (v := 0) dX11_went_58 (by decide) ?_
      refine m_istore (lv' := [(4, .int 0), (0, .ref a0), (1, .int x1), (2, .int x2), (3, .int x3)]) dX11_went_59 (by decide) rfl ?_
      exact m_sub [1, 2, 3, 4, 0] rfl h
    · rw [if_pos c1] at h
      refine m_iconst (v := (-1)) dX11_went_56 (by decide) ?_
      exact m_ireturn dX11_went_57 rfl rfl ⟨rfl, _, rfl, h⟩
set_option maxHeartbeats 4000000 in
set_option maxRecDepth 100000 in
theorem h11_went_61 {d : Nat} {Th : mT} {Q : Int32 → mM → Prop} {a0 : Nat} {x1 : Int32} {x2 : Int32} {x3 : Int32} {x4 : Int32} {M : mM} (h : Th.2.2 a0 = some (.inl 11) ∧ (if ((M).1 a0 60) ≤ x4 then (P11_puts d Th a0 x1 x2 x3 M (fun M2 : mM => Q (((M2).1 a0 60)) M2)) else (∃ r4 : Nat, M.2.2 a0 62 = some r4 ∧ (m_ok Th r4 .int x4 ∧ (if ((M).1 r4 (Int32.toNatClampNeg x4)) = x1 then (∃ r7 : Nat, M.2.2 a0 63 = some r7 ∧ (m_ok Th r7 .int x4 ∧ (if ((M).1 r7 (Int32.toNatClampNeg x4)) = x2 then (Q (-1) M) else (H11_went_61 (d + 1) Th Q a0 x1 x2 x3 (x4 + 1) M)))) else (H11_went_61 (d + 1) Th Q a0 x1 x2 x3 (x4 + 1) M)))))) : H11_went_61 (d + 1) Th Q a0 x1 x2 x3 x4 M := by
  show m_W (d + 1) 0 0 yX11_went cX11_went 5 (some .int) (m_qi Th Q) 61 [(0, .ref a0), (1, .int x1), (2, .int x2), (3, .int x3), (4, .int x4)] [] Th M 0 0
  refine m_iload dX11_went_61 4 rfl ?_
  refine m_aload_n dX11_went_63 rfl 0 rfl ?_
  obtain ⟨q1, h⟩ := h
  refine m_geti f_X11_429 rfl dX11_went_64 q1 ?_
  refine m_icmp_ge (tgt := 100) dX11_went_67 (by decide) (fun c1 => ?_) (fun c1 => ?_)
  · rw [if_pos c1] at h
    refine m_aload_n dX11_went_100 rfl 0 rfl ?_
    refine m_iload_n dX11_went_101 rfl 1 rfl ?_
    refine m_iload_n dX11_went_102 rfl 2 rfl ?_
    refine m_iload_n dX11_went_103 rfl 3 rfl ?_
    refine m_invV (ci := 11) (As := [.int x1, .int x2, .int x3]) (d' := d) (mc' := 0) (ms' := 0) (rest := []) i_11_puts v_11_puts t_11_puts l_X11_436 ⟨_, _, rfl⟩ dX11_went_104 rfl rfl q1 (Nat.le_of_ble_eq_true rfl) (Nat.le_refl _) ⟨Nat.le_refl _, Nat.le_refl _⟩ (m_Cv h (fun M2 h => ?_))
    show m_W (d + 1) 0 0 yX11_went cX11_went 5 (some .int) (m_qi Th Q) 107 [(0, .ref a0), (1, .int x1), (2, .int x2), (3, .int x3), (4, .int x4)] [] Th M2 0 0
    refine m_aload_n dX11_went_107 rfl 0 rfl ?_
    refine m_geti f_X11_429 rfl dX11_went_108 q1 ?_
    exact m_ireturn dX11_went_111 rfl rfl ⟨rfl, _, rfl, h⟩
  · rw [if_neg c1] at h
    refine m_aload_n dX11_went_70 rfl 0 rfl ?_
    obtain ⟨r4, q5, h⟩ := h
    refine m_getr f_X11_116 rfl dX11_went_71 q1 q5 ?_
    refine m_iload dX11_went_74 4 rfl ?_
    obtain ⟨q6, h⟩ := h
    refine m_iald dX11_went_76 q6 ?_
    refine m_iload_n dX11_went_77 rfl 1 rfl ?_
    refine m_icmp_ne (tgt := 94) dX11_went_78 (by decide) (fun c1 => ?_) (fun c1 => ?_)
    · rw [if_neg c1] at h
      refine m_iinc (v := x4 + 1) (lv' := [(4, .int (x4 + 1)), (0, .ref a0), (1, .int x1), (2, .int x2), (3, .int x3)]) dX11_went_94 4 rfl rfl (by decide) rfl ?_
      refine m_goto (tgt := 61) dX11_went_97 (by decide) ?_
      exact m_sub [1, 2, 3, 4, 0] rfl h
    · rw [if_pos c1] at h
      refine m_aload_n dX11_went_81 rfl 0 rfl ?_
      obtain ⟨r7, q8, h⟩ := h
      refine m_getr f_X11_119 rfl dX11_went_82 q1 q8 ?_
      refine m_iload dX11_went_85 4 rfl ?_
      obtain ⟨q9, h⟩ := h
      refine m_iald dX11_went_87 q9 ?_
      refine m_iload_n dX11_went_88 rfl 2 rfl ?_
      refine m_icmp_ne (tgt := 94) dX11_went_89 (by decide) (fun c1 => ?_) (fun c1 => ?_)
      · rw [if_neg c1] at h
        refine m_iinc (v := x4 + 1) (lv' := [(4, .int (x4 + 1)), (0, .ref a0), (1, .int x1), (2, .int x2), (3, .int x3)]) dX11_went_94 4 rfl rfl (by decide) rfl ?_
        refine m_goto (tgt := 61) dX11_went_97 (by decide) ?_
        exact m_sub [1, 2, 3, 4, 0] rfl h
      · rw [if_pos c1] at h
        refine m_iconst (v := (-1)) dX11_went_92 (by decide) ?_
        exact m_ireturn dX11_went_93 rfl rfl ⟨rfl, _, rfl, h⟩
set_option maxHeartbeats 4000000 in
set_option maxRecDepth 100000 in
theorem e11_went {d : Nat} {Th : mT} {Q : Int32 → mM → Prop} {a0 : Nat} {x1 : Int32} {x2 : Int32} {x3 : Int32} {M : mM} (h : Th.2.2 a0 = some (.inl 11) ∧ (P11_isBand d Th a0 x1 M (fun (v2 : Int32) (M1 : mM) => if v2 = 0 then (Q (-1) M1) else (P11_isRiddle d Th a0 x2 M1 (fun (v5 : Int32) (M4 : mM) => if v5 = 0 then (Q (-1) M4) else (if ((M4).1 a0 60) = 0 then (H11_went_39 (d + 1) Th Q a0 x1 x2 x3 1 x3 M4) else (∃ r6 : Nat, M4.2.2 a0 64 = some r6 ∧ (m_ok Th r6 .int ((((M4).1 a0 60) - 1)) ∧ (H11_went_39 (d + 1) Th Q a0 x1 x2 x3 (((M4).1 r6 (Int32.toNatClampNeg ((((M4).1 a0 60) - 1))))) x3 M4))))))))) : P11_went (d + 1) Th a0 x1 x2 x3 M Q := by
  refine m_C.of (by decide +kernel) (Nat.le_of_ble_eq_true rfl) ?_
  show m_W (d + 1) 0 0 yX11_went cX11_went 5 (some .int) (m_qi Th Q) 0 [(0, .ref a0), (1, .int x1), (2, .int x2), (3, .int x3)] [] Th M 0 0
  refine m_aload_n dX11_went_0 rfl 0 rfl ?_
  refine m_iload_n dX11_went_1 rfl 1 rfl ?_
  obtain ⟨q3, h⟩ := h
  refine m_invV (ci := 11) (As := [.int x1]) (d' := d) (mc' := 0) (ms' := 0) (rest := []) i_11_isBand v_11_isBand t_11_isBand l_X11_144 ⟨_, _, rfl⟩ dX11_went_2 rfl rfl q3 (Nat.le_of_ble_eq_true rfl) (Nat.le_refl _) ⟨Nat.le_refl _, Nat.le_refl _⟩ (m_Ci h (fun v2 M1 h => ?_))
  show m_W (d + 1) 0 0 yX11_went cX11_went 5 (some .int) (m_qi Th Q) 5 [(0, .ref a0), (1, .int x1), (2, .int x2), (3, .int x3)] [.int v2] Th M1 0 0
  refine m_if_eq (tgt := 56) dX11_went_5 (by decide) (fun c1 => ?_) (fun c1 => ?_)
  · rw [if_pos c1] at h
    refine m_iconst (v := (-1)) dX11_went_56 (by decide) ?_
    exact m_ireturn dX11_went_57 rfl rfl ⟨rfl, _, rfl, h⟩
  · rw [if_neg c1] at h
    refine m_aload_n dX11_went_8 rfl 0 rfl ?_
    refine m_iload_n dX11_went_9 rfl 2 rfl ?_
    refine m_invV (ci := 11) (As := [.int x2]) (d' := d) (mc' := 0) (ms' := 0) (rest := []) i_11_isRiddle v_11_isRiddle t_11_isRiddle l_X11_166 ⟨_, _, rfl⟩ dX11_went_10 rfl rfl q3 (Nat.le_of_ble_eq_true rfl) (Nat.le_refl _) ⟨Nat.le_refl _, Nat.le_refl _⟩ (m_Ci h (fun v5 M4 h => ?_))
    show m_W (d + 1) 0 0 yX11_went cX11_went 5 (some .int) (m_qi Th Q) 13 [(0, .ref a0), (1, .int x1), (2, .int x2), (3, .int x3)] [.int v5] Th M4 0 0
    refine m_if_eq (tgt := 56) dX11_went_13 (by decide) (fun c1 => ?_) (fun c1 => ?_)
    · rw [if_pos c1] at h
      refine m_iconst (v := (-1)) dX11_went_56 (by decide) ?_
      exact m_ireturn dX11_went_57 rfl rfl ⟨rfl, _, rfl, h⟩
    · rw [if_neg c1] at h
      refine m_iload_n dX11_went_16 rfl 3 rfl ?_
      refine m_aload_n dX11_went_17 rfl 0 rfl ?_
      refine m_geti f_X11_429 rfl dX11_went_18 q3 ?_
      refine m_if_ne (tgt := 28) dX11_went_21 (by decide) (fun c1 => ?_) (fun c1 => ?_)
      · rw [if_neg c1] at h
        refine m_aload_n dX11_went_28 rfl 0 rfl ?_
        obtain ⟨r6, q7, h⟩ := h
        refine m_getr f_X11_122 rfl dX11_went_29 q3 q7 ?_
        refine m_aload_n dX11_went_32 rfl 0 rfl ?_
        refine m_geti f_X11_429 rfl dX11_went_33 q3 ?_
        refine m_iconst (v := 1) dX11_went_36 (by decide) ?_
        refine m_isub dX11_went_37 ?_
        obtain ⟨q8, h⟩ := h
        refine m_iald dX11_went_38 q8 ?_
        exact h
      · rw [if_pos c1] at h
        refine m_iconst (v := 1) dX11_went_24 (by decide) ?_
        refine m_goto (tgt := 39) dX11_went_25 (by decide) ?_
        exact h
set_option maxHeartbeats 4000000 in
set_option maxRecDepth 100000 in
theorem e11_logged {d : Nat} {Th : mT} {Q : Int32 → mM → Prop} {a0 : Nat} {x1 : Int32} {x2 : Int32} {M : mM} (h : if x1 < 0 then (Q (-1) M) else (Th.2.2 a0 = some (.inl 11) ∧ (if x1 < ((M).1 a0 60) then (if x2 = 0 then (∃ r2 : Nat, M.2.2 a0 62 = some r2 ∧ (m_ok Th r2 .int x1 ∧ (Q (((M).1 r2 (Int32.toNatClampNeg x1))) M))) else (if x2 = 1 then (∃ r5 : Nat, M.2.2 a0 63 = some r5 ∧ (m_ok Th r5 .int x1 ∧ (Q (((M).1 r5 (Int32.toNatClampNeg x1))) M))) else (if x2 = 2 then (∃ r8 : Nat, M.2.2 a0 64 = some r8 ∧ (m_ok Th r8 .int x1 ∧ (Q (((M).1 r8 (Int32.toNatClampNeg x1))) M))) else (Q (-1) M)))) else (Q (-1) M)))) : P11_logged (d + 1) Th a0 x1 x2 M Q := by
  refine m_C.of (by decide +kernel) (Nat.le_of_ble_eq_true rfl) ?_
  show m_W (d + 1) 0 0 yX11_logged cX11_logged 3 (some .int) (m_qi Th Q) 0 [(0, .ref a0), (1, .int x1), (2, .int x2)] [] Th M 0 0
  refine m_iload_n dX11_logged_0 rfl 1 rfl ?_
  refine m_if_lt (tgt := 12) dX11_logged_1 (by decide) (fun c1 => ?_) (fun c1 => ?_)
  · rw [if_pos c1] at h
    refine m_iconst (v := (-1)) dX11_logged_12 (by decide) ?_
    refine m_goto (tgt := 58) dX11_logged_13 (by decide) ?_
    exact m_ireturn dX11_logged_58 rfl rfl ⟨rfl, _, rfl, h⟩
  · rw [if_neg c1] at h
    refine m_iload_n dX11_logged_4 rfl 1 rfl ?_
    refine m_aload_n dX11_logged_5 rfl 0 rfl ?_
    obtain ⟨q1, h⟩ := h
    refine m_geti f_X11_429 rfl dX11_logged_6 q1 ?_
    refine m_icmp_lt (tgt := 16) dX11_logged_9 (by decide) (fun c1 => ?_) (fun c1 => ?_)
    · rw [if_pos c1] at h
      refine m_iload_n dX11_logged_16 rfl 2 rfl ?_
      refine m_if_ne (tgt := 29) dX11_logged_17 (by decide) (fun c1 => ?_) (fun c1 => ?_)
      · rw [if_neg c1] at h
        refine m_iload_n dX11_logged_29 rfl 2 rfl ?_
        refine m_iconst (v := 1) dX11_logged_30 (by decide) ?_
        refine m_icmp_ne (tgt := 43) dX11_logged_31 (by decide) (fun c1 => ?_) (fun c1 => ?_)
        · rw [if_neg c1] at h
          refine m_iload_n dX11_logged_43 rfl 2 rfl ?_
          refine m_iconst (v := 2) dX11_logged_44 (by decide) ?_
          refine m_icmp_ne (tgt := 57) dX11_logged_45 (by decide) (fun c1 => ?_) (fun c1 => ?_)
          · rw [if_neg c1] at h
            refine m_iconst (v := (-1)) dX11_logged_57 (by decide) ?_
            exact m_ireturn dX11_logged_58 rfl rfl ⟨rfl, _, rfl, h⟩
          · rw [if_pos c1] at h
            refine m_aload_n dX11_logged_48 rfl 0 rfl ?_
            obtain ⟨r8, q9, h⟩ := h
            refine m_getr f_X11_122 rfl dX11_logged_49 q1 q9 ?_
            refine m_iload_n dX11_logged_52 rfl 1 rfl ?_
            obtain ⟨q10, h⟩ := h
            refine m_iald dX11_logged_53 q10 ?_
            refine m_goto (tgt := 58) dX11_logged_54 (by decide) ?_
            exact m_ireturn dX11_logged_58 rfl rfl ⟨rfl, _, rfl, h⟩
        · rw [if_pos c1] at h
          refine m_aload_n dX11_logged_34 rfl 0 rfl ?_
          obtain ⟨r5, q6, h⟩ := h
          refine m_getr f_X11_119 rfl dX11_logged_35 q1 q6 ?_
          refine m_iload_n dX11_logged_38 rfl 1 rfl ?_
          obtain ⟨q7, h⟩ := h
          refine m_iald dX11_logged_39 q7 ?_
          refine m_goto (tgt := 58) dX11_logged_40 (by decide) ?_
          exact m_ireturn dX11_logged_58 rfl rfl ⟨rfl, _, rfl, h⟩
      · rw [if_pos c1] at h
        refine m_aload_n dX11_logged_20 rfl 0 rfl ?_
        obtain ⟨r2, q3, h⟩ := h
        refine m_getr f_X11_116 rfl dX11_logged_21 q1 q3 ?_
        refine m_iload_n dX11_logged_24 rfl 1 rfl ?_
        obtain ⟨q4, h⟩ := h
        refine m_iald dX11_logged_25 q4 ?_
        refine m_goto (tgt := 58) dX11_logged_26 (by decide) ?_
        exact m_ireturn dX11_logged_58 rfl rfl ⟨rfl, _, rfl, h⟩
    · rw [if_neg c1] at h
      refine m_iconst (v := (-1)) dX11_logged_12 (by decide) ?_
      refine m_goto (tgt := 58) dX11_logged_13 (by decide) ?_
      exact m_ireturn dX11_logged_58 rfl rfl ⟨rfl, _, rfl, h⟩
set_option maxHeartbeats 4000000 in
set_option maxRecDepth 100000 in
theorem h11_isAfterOne_2 {d : Nat} {Th : mT} {Q : Int32 → mM → Prop} {a0 : Nat} {x1 : Int32} {x2 : Int32} {M : mM} (h : if x1 ≤ x2 then (Q 0 M) else (Th.2.2 a0 = some (.inl 11) ∧ (∃ r2 : Nat, M.2.2 a0 63 = some r2 ∧ (m_ok Th r2 .int x2 ∧ (m_ok Th r2 .int x1 ∧ (if ((M).1 r2 (Int32.toNatClampNeg x2)) = ((M).1 r2 (Int32.toNatClampNeg x1)) then (∃ r6 : Nat, M.2.2 a0 62 = some r6 ∧ (m_ok Th r6 .int x2 ∧ (m_ok Th r6 .int x1 ∧ (if ((M).1 r6 (Int32.toNatClampNeg x2)) = ((M).1 r6 (Int32.toNatClampNeg x1)) then (H11_isAfterOne_2 (d + 1) Th Q a0 x1 (x2 + 1) M) else (∃ r10 : Nat, M.2.2 a0 64 = some r10 ∧ (m_ok Th r10 .int x2 ∧ (m_ok Th r10 .int x1 ∧ (if ((M).1 r10 (Int32.toNatClampNeg x2)) < (((M).1 r10 (Int32.toNatClampNeg x1)) - 2) then (H11_isAfterOne_2 (d + 1) Th Q a0 x1 (x2 + 1) M) else (Q 1 M))))))))) else (H11_isAfterOne_2 (d + 1) Th Q a0 x1 (x2 + 1) M))))))) : H11_isAfterOne_2 (d + 1) Th Q a0 x1 x2 M := by
  show m_W (d + 1) 0 0 yX11_isAfterOne cX11_isAfterOne 3 (some .boolean) (m_qi Th Q) 2 [(0, .ref a0), (1, .int x1), (2, .int x2)] [] Th M 0 0
  refine m_iload_n dX11_isAfterOne_2 rfl 2 rfl ?_
  refine m_iload_n dX11_isAfterOne_3 rfl 1 rfl ?_
  refine m_icmp_ge (tgt := 62) dX11_isAfterOne_4 (by decide) (fun c1 => ?_) (fun c1 => ?_)
  · rw [if_pos c1] at h
    refine m_iconst (v := 0) dX11_isAfterOne_62 (by decide) ?_
    exact m_ireturn dX11_isAfterOne_63 rfl (by decide) ⟨rfl, _, rfl, h⟩
  · rw [if_neg c1] at h
    refine m_aload_n dX11_isAfterOne_7 rfl 0 rfl ?_
    obtain ⟨q1, h⟩ := h
    obtain ⟨r2, q3, h⟩ := h
    refine m_getr f_X11_119 rfl dX11_isAfterOne_8 q1 q3 ?_
    refine m_iload_n dX11_isAfterOne_11 rfl 2 rfl ?_
    obtain ⟨q4, h⟩ := h
    refine m_iald dX11_isAfterOne_12 q4 ?_
    refine m_aload_n dX11_isAfterOne_13 rfl 0 rfl ?_
    refine m_getr f_X11_119 rfl dX11_isAfterOne_14 q1 q3 ?_
    refine m_iload_n dX11_isAfterOne_17 rfl 1 rfl ?_
    obtain ⟨q5, h⟩ := h
    refine m_iald dX11_isAfterOne_18 q5 ?_
    refine m_icmp_ne (tgt := 56) dX11_isAfterOne_19 (by decide) (fun c1 => ?_) (fun c1 => ?_)
    · rw [if_neg c1] at h
      refine m_iinc (v := x2 + 1) (lv' := [(2, .int (x2 + 1)), (0, .ref a0), (1, .int x1)]) dX11_isAfterOne_56 2 rfl rfl (by decide) rfl ?_
      refine m_goto (tgt := 2) dX11_isAfterOne_59 (by decide) ?_
      exact m_sub [1, 2, 0] rfl h
    · rw [if_pos c1] at h
      refine m_aload_n dX11_isAfterOne_22 rfl 0 rfl ?_
      obtain ⟨r6, q7, h⟩ := h
      refine m_getr f_X11_116 rfl dX11_isAfterOne_23 q1 q7 ?_
      refine m_iload_n dX11_isAfterOne_26 rfl 2 rfl ?_
      obtain ⟨q8, h⟩ := h
      refine m_iald dX11_isAfterOne_27 q8 ?_
      refine m_aload_n dX11_isAfterOne_28 rfl 0 rfl ?_
      refine m_getr f_X11_116 rfl dX11_isAfterOne_29 q1 q7 ?_
      refine m_iload_n dX11_isAfterOne_32 rfl 1 rfl ?_
      obtain ⟨q9, h⟩ := h
      refine m_iald dX11_isAfterOne_33 q9 ?_
      refine m_icmp_eq (tgt := 56) dX11_isAfterOne_34 (by decide) (fun c1 => ?_) (fun c1 => ?_)
      · rw [if_pos c1] at h
        refine m_iinc (v := x2 + 1) (lv' := [(2, .int (x2 + 1)), (0, .ref a0), (1, .int x1)]) dX11_isAfterOne_56 2 rfl rfl (by decide) rfl ?_
        refine m_goto (tgt := 2) dX11_isAfterOne_59 (by decide) ?_
        exact m_sub [1, 2, 0] rfl h
      · rw [if_neg c1] at h
        refine m_aload_n dX11_isAfterOne_37 rfl 0 rfl ?_
        obtain ⟨r10, q11, h⟩ := h
        refine m_getr f_X11_122 rfl dX11_isAfterOne_38 q1 q11 ?_
        refine m_iload_n dX11_isAfterOne_41 rfl 2 rfl ?_
        obtain ⟨q12, h⟩ := h
        refine m_iald dX11_isAfterOne_42 q12 ?_
        refine m_aload_n dX11_isAfterOne_43 rfl 0 rfl ?_
        refine m_getr f_X11_122 rfl dX11_isAfterOne_44 q1 q11 ?_
        refine m_iload_n dX11_isAfterOne_47 rfl 1 rfl ?_
        obtain ⟨q13, h⟩ := h
        refine m_iald dX11_isAfterOne_48 q13 ?_
        refine m_iconst (v := 2) dX11_isAfterOne_49 (by decide) ?_
        refine m_isub dX11_isAfterOne_50 ?_
        refine m_icmp_lt (tgt := 56) dX11_isAfterOne_51 (by decide) (fun c1 => ?_) (fun c1 => ?_)
        · rw [if_pos c1] at h
          refine m_iinc (v := x2 + 1) (lv' := [(2, .int (x2 + 1)), (0, .ref a0), (1, .int x1)]) dX11_isAfterOne_56 2 rfl rfl (by decide) rfl ?_
          refine m_goto (tgt := 2) dX11_isAfterOne_59 (by decide) ?_
          exact m_sub [1, 2, 0] rfl h
        · rw [if_neg c1] at h
          refine m_iconst (v := 1) dX11_isAfterOne_54 (by decide) ?_
          exact m_ireturn dX11_isAfterOne_55 rfl (by decide) ⟨rfl, _, rfl, h⟩
set_option maxHeartbeats 4000000 in
set_option maxRecDepth 100000 in
theorem e11_isAfterOne {d : Nat} {Th : mT} {Q : Int32 → mM → Prop} {a0 : Nat} {x1 : Int32} {M : mM} (h : H11_isAfterOne_2 (d + 1) Th Q a0 x1 0 M) : P11_isAfterOne (d + 1) Th a0 x1 M Q := by
  refine m_C.of (by decide +kernel) (Nat.le_of_ble_eq_true rfl) ?_
  show m_W (d + 1) 0 0 yX11_isAfterOne cX11_isAfterOne 3 (some .boolean) (m_qi Th Q) 0 [(0, .ref a0), (1, .int x1)] [] Th M 0 0
  refine m_iconst (v := 0) dX11_isAfterOne_0 (by decide) ?_
  refine m_istore_n (lv' := [(2, .int 0), (0, .ref a0), (1, .int x1)]) dX11_isAfterOne_1 rfl (by decide) rfl ?_
  exact m_sub [1, 2, 0] rfl h
set_option maxHeartbeats 4000000 in
set_option maxRecDepth 100000 in
theorem h11_thoughtOf_4 {d : Nat} {Th : mT} {Q : Int32 → mM → Prop} {a0 : Nat} {x1 : Int32} {x2 : Int32} {x3 : Int32} {M : mM} (h : if x1 ≤ x3 then (Th.2.2 a0 = some (.inl 11) ∧ (∃ r2 : Nat, M.2.2 a0 64 = some r2 ∧ (m_ok Th r2 .int x1 ∧ (∀ xv5 : Int32, xv5 = ((((M).1 r2 (Int32.toNatClampNeg x1)) - 1) - x2) → Q ((if 0 ≤ xv5 then (if xv5 ≤ 5 then xv5 else 5) else 0)) M)))) else (Th.2.2 a0 = some (.inl 11) ∧ (∃ r7 : Nat, M.2.2 a0 62 = some r7 ∧ (m_ok Th r7 .int x3 ∧ (m_ok Th r7 .int x1 ∧ (if ((M).1 r7 (Int32.toNatClampNeg x3)) = ((M).1 r7 (Int32.toNatClampNeg x1)) then (∃ r11 : Nat, M.2.2 a0 64 = some r11 ∧ (m_ok Th r11 .int x3 ∧ (∃ r14 : Nat, M.2.2 a0 63 = some r14 ∧ (m_ok Th r14 .int x3 ∧ (P11_walkOf d Th a0 (((M).1 r7 (Int32.toNatClampNeg x3))) (((M).1 r14 (Int32.toNatClampNeg x3))) M (fun (v18 : Int32) (M17 : mM) => ∀ xv19 : Int32, xv19 = (((M).1 r11 (Int32.toNatClampNeg x3)) + v18) → H11_thoughtOf_4 (d + 1) Th Q a0 x1 xv19 (x3 + 1) M17)))))) else (H11_thoughtOf_4 (d + 1) Th Q a0 x1 x2 (x3 + 1) M))))))) : H11_thoughtOf_4 (d + 1) Th Q a0 x1 x2 x3 M := by
  show m_W (d + 1) 0 0 yX11_thoughtOf cX11_thoughtOf 4 (some .int) (m_qi Th Q) 4 [(0, .ref a0), (1, .int x1), (2, .int x2), (3, .int x3)] [] Th M 0 0
  refine m_iload_n dX11_thoughtOf_4 rfl 3 rfl ?_
  refine m_iload_n dX11_thoughtOf_5 rfl 1 rfl ?_
  refine m_icmp_ge (tgt := 54) dX11_thoughtOf_6 (by decide) (fun c1 => ?_) (fun c1 => ?_)
  · rw [if_pos c1] at h
    refine m_aload_n dX11_thoughtOf_54 rfl 0 rfl ?_
    obtain ⟨q1, h⟩ := h
    obtain ⟨r2, q3, h⟩ := h
    refine m_getr f_X11_122 rfl dX11_thoughtOf_55 q1 q3 ?_
    refine m_iload_n dX11_thoughtOf_58 rfl 1 rfl ?_
    obtain ⟨q4, h⟩ := h
    refine m_iald dX11_thoughtOf_59 q4 ?_
    refine m_iconst (v := 1) dX11_thoughtOf_60 (by decide) ?_
    refine m_isub dX11_thoughtOf_61 ?_
    refine m_iload_n dX11_thoughtOf_62 rfl 2 rfl ?_
    refine m_isub dX11_thoughtOf_63 ?_
    obtain ⟨xv5, e_xv5⟩ : ∃ xv5 : Int32, xv5 = ((((M).1 r2 (Int32.toNatClampNeg x1)) - 1) - x2) := ⟨_, rfl⟩
    have h := h xv5 e_xv5
    rw [← e_xv5]
    refine m_istore_n (lv' := [(3, .int xv5), (0, .ref a0), (1, .int x1), (2, .int x2)]) dX11_thoughtOf_64 rfl (by decide) rfl ?_
    refine m_iload_n dX11_thoughtOf_65 rfl 0 rfl ?_
    have hJ : m_W (d + 1) 0 0 yX11_thoughtOf cX11_thoughtOf 4 (some .int) (m_qi Th Q) 83 [(3, .int xv5), (0, .ref a0), (1, .int x1), (2, .int x2)] [.int ((if 0 ≤ xv5 then (if xv5 ≤ 5 then xv5 else 5) else 0))] Th M 0 0 := by
      exact m_ireturn dX11_thoughtOf_83 rfl rfl ⟨rfl, _, rfl, h⟩
    refine m_if_ge (tgt := 73) dX11_thoughtOf_66 (by decide) (fun c1 => ?_) (fun c1 => ?_)
    · simp only [if_pos c1] at hJ
      refine m_iload_n dX11_thoughtOf_73 rfl 0 rfl ?_
      refine m_iconst (v := 5) dX11_thoughtOf_74 (by decide) ?_
      refine m_icmp_le (tgt := 82) dX11_thoughtOf_75 (by decide) (fun c2 => ?_) (fun c2 => ?_)
      · simp only [if_pos c2] at hJ
        refine m_iload_n dX11_thoughtOf_82 rfl 0 rfl ?_
        exact hJ
      · simp only [if_neg c2] at hJ
        refine m_iconst (v := 5) dX11_thoughtOf_78 (by decide) ?_
        refine m_goto (tgt := 83) dX11_thoughtOf_79 (by decide) ?_
        exact hJ
    · simp only [if_neg c1] at hJ
      refine m_iconst (v := 0) dX11_thoughtOf_69 (by decide) ?_
      refine m_goto (tgt := 83) dX11_thoughtOf_70 (by decide) ?_
      exact hJ
  · rw [if_neg c1] at h
    refine m_aload_n dX11_thoughtOf_9 rfl 0 rfl ?_
    obtain ⟨q6, h⟩ := h
    obtain ⟨r7, q8, h⟩ := h
    refine m_getr f_X11_116 rfl dX11_thoughtOf_10 q6 q8 ?_
    refine m_iload_n dX11_thoughtOf_13 rfl 3 rfl ?_
    obtain ⟨q9, h⟩ := h
    refine m_iald dX11_thoughtOf_14 q9 ?_
    refine m_aload_n dX11_thoughtOf_15 rfl 0 rfl ?_
    refine m_getr f_X11_116 rfl dX11_thoughtOf_16 q6 q8 ?_
    refine m_iload_n dX11_thoughtOf_19 rfl 1 rfl ?_
    obtain ⟨q10, h⟩ := h
    refine m_iald dX11_thoughtOf_20 q10 ?_
    refine m_icmp_ne (tgt := 48) dX11_thoughtOf_21 (by decide) (fun c1 => ?_) (fun c1 => ?_)
    · rw [if_neg c1] at h
      refine m_iinc (v := x3 + 1) (lv' := [(3, .int (x3 + 1)), (0, .ref a0), (1, .int x1), (2, .int x2)]) dX11_thoughtOf_48 3 rfl rfl (by decide) rfl ?_
      refine m_goto (tgt := 4) dX11_thoughtOf_51 (by decide) ?_
      exact m_sub [1, 2, 3, 0] rfl h
    · rw [if_pos c1] at h
      refine m_aload_n dX11_thoughtOf_24 rfl 0 rfl ?_
      obtain ⟨r11, q12, h⟩ := h
      refine m_getr f_X11_122 rfl dX11_thoughtOf_25 q6 q12 ?_
      refine m_iload_n dX11_thoughtOf_28 rfl 3 rfl ?_
      obtain ⟨q13, h⟩ := h
      refine m_iald dX11_thoughtOf_29 q13 ?_
      refine m_aload_n dX11_thoughtOf_30 rfl 0 rfl ?_
      refine m_aload_n dX11_thoughtOf_31 rfl 0 rfl ?_
      refine m_getr f_X11_116 rfl dX11_thoughtOf_32 q6 q8 ?_
      refine m_iload_n dX11_thoughtOf_35 rfl 3 rfl ?_
      refine m_iald dX11_thoughtOf_36 q9 ?_
      refine m_aload_n dX11_thoughtOf_37 rfl 0 rfl ?_
      obtain ⟨r14, q15, h⟩ := h
      refine m_getr f_X11_119 rfl dX11_thoughtOf_38 q6 q15 ?_
      refine m_iload_n dX11_thoughtOf_41 rfl 3 rfl ?_
      obtain ⟨q16, h⟩ := h
      refine m_iald dX11_thoughtOf_42 q16 ?_
      refine m_invV (ci := 11) (As := [.int (((M).1 r7 (Int32.toNatClampNeg x3))), .int (((M).1 r14 (Int32.toNatClampNeg x3)))]) (d' := d) (mc' := 0) (ms' := 0) (rest := [.int (((M).1 r11 (Int32.toNatClampNeg x3)))]) i_11_walkOf v_11_walkOf t_11_walkOf l_X11_169 ⟨_, _, rfl⟩ dX11_thoughtOf_43 rfl rfl q6 (Nat.le_of_ble_eq_true rfl) (Nat.le_refl _) ⟨Nat.le_refl _, Nat.le_refl _⟩ (m_Ci h (fun v18 M17 h => ?_))
      show m_W (d + 1) 0 0 yX11_thoughtOf cX11_thoughtOf 4 (some .int) (m_qi Th Q) 46 [(0, .ref a0), (1, .int x1), (2, .int x2), (3, .int x3)] [.int v18, .int (((M).1 r11 (Int32.toNatClampNeg x3)))] Th M17 0 0
      refine m_iadd dX11_thoughtOf_46 ?_
      obtain ⟨xv19, e_xv19⟩ : ∃ xv19 : Int32, xv19 = (((M).1 r11 (Int32.toNatClampNeg x3)) + v18) := ⟨_, rfl⟩
      have h := h xv19 e_xv19
      rw [← e_xv19]
      refine m_istore_n (lv' := [(2, .int xv19), (0, .ref a0), (1, .int x1), (3, .int x3)]) dX11_thoughtOf_47 rfl (by decide) rfl ?_
      refine m_iinc (v := x3 + 1) (lv' := [(3, .int (x3 + 1)), (2, .int xv19), (0, .ref a0), (1, .int x1)]) dX11_thoughtOf_48 3 rfl rfl (by decide) rfl ?_
      refine m_goto (tgt := 4) dX11_thoughtOf_51 (by decide) ?_
      exact m_sub [2, 3, 1, 0] rfl h
set_option maxHeartbeats 4000000 in
set_option maxRecDepth 100000 in
theorem e11_thoughtOf {d : Nat} {Th : mT} {Q : Int32 → mM → Prop} {a0 : Nat} {x1 : Int32} {M : mM} (h : H11_thoughtOf_4 (d + 1) Th Q a0 x1 0 0 M) : P11_thoughtOf (d + 1) Th a0 x1 M Q := by
  refine m_C.of (by decide +kernel) (Nat.le_of_ble_eq_true rfl) ?_
  show m_W (d + 1) 0 0 yX11_thoughtOf cX11_thoughtOf 4 (some .int) (m_qi Th Q) 0 [(0, .ref a0), (1, .int x1)] [] Th M 0 0
  refine m_iconst (v := 0) dX11_thoughtOf_0 (by decide) ?_
  refine m_istore_n (lv' := [(2, .int 0), (0, .ref a0), (1, .int x1)]) dX11_thoughtOf_1 rfl (by decide) rfl ?_
  refine m_iconst (v := 0) dX11_thoughtOf_2 (by decide) ?_
  refine m_istore_n (lv' := [(3, .int 0), (2, .int 0), (0, .ref a0), (1, .int x1)]) dX11_thoughtOf_3 rfl (by decide) rfl ?_
  exact m_sub [2, 3, 1, 0] rfl h
set_option maxHeartbeats 4000000 in
set_option maxRecDepth 100000 in
theorem h11_knew_92 {d : Nat} {Th : mT} {Q : Int32 → mM → Prop} {x3 : Int32} {x4 : Int32} {s0 : Int32} {M : mM} (h : if x4 = 0 then (Q x3 M) else (P11_gcd d Th ((x4 : Int32).toInt64) ((s0 : Int32).toInt64) M (fun (v2 : Int64) (M1 : mM) => ∀ xv3 : Int32, xv3 = (v2 : Int64).toInt32 → if x3 = 0 then (¬ (xv3 = 0) ∧ (Q ((x4 / xv3)) M1)) else (¬ (xv3 = 0) ∧ (Q ((s0 / xv3)) M1))))) : H11_knew_92 (d + 1) Th Q x3 x4 s0 M := by
  show m_W (d + 1) 0 0 yX11_knew cX11_knew 7 (some .int) (m_qi Th Q) 92 [(3, .int x3), (4, .int x4)] [.int s0] Th M 0 0
  refine m_istore (lv' := [(5, .int s0), (3, .int x3), (4, .int x4)]) dX11_knew_92 (by decide) rfl ?_
  refine m_iload dX11_knew_94 2 rfl ?_
  refine m_if_ne (tgt := 101) dX11_knew_96 (by decide) (fun c1 => ?_) (fun c1 => ?_)
  · rw [if_neg c1] at h
    refine m_iload dX11_knew_101 2 rfl ?_
    refine m_i2l dX11_knew_103 ?_
    refine m_iload dX11_knew_104 0 rfl ?_
    refine m_i2l dX11_knew_106 ?_
    refine m_invS (As := [.long ((x4 : Int32).toInt64), .long ((s0 : Int32).toInt64)]) (d' := d) (mc' := 0) (ms' := 0) (rest := []) i_11_gcd s_11_gcd l_X11_330 dX11_knew_107 rfl rfl (Nat.le_of_ble_eq_true rfl) (Nat.le_refl _) ⟨Nat.le_refl _, Nat.le_refl _⟩ (m_Cl h (fun v2 M1 h => ?_))
    show m_W (d + 1) 0 0 yX11_knew cX11_knew 7 (some .int) (m_qi Th Q) 110 [(5, .int s0), (3, .int x3), (4, .int x4)] [.long v2] Th M1 0 0
    refine m_l2i dX11_knew_110 ?_
    obtain ⟨xv3, e_xv3⟩ : ∃ xv3 : Int32, xv3 = (v2 : Int64).toInt32 := ⟨_, rfl⟩
    have h := h xv3 e_xv3
    rw [← e_xv3]
    refine m_istore (lv' := [(6, .int xv3), (5, .int s0), (3, .int x3), (4, .int x4)]) dX11_knew_111 (by decide) rfl ?_
    refine m_iload_n dX11_knew_113 rfl 2 rfl ?_
    refine m_if_ne (tgt := 125) dX11_knew_114 (by decide) (fun c1 => ?_) (fun c1 => ?_)
    · rw [if_neg c1] at h
      refine m_iload dX11_knew_125 1 rfl ?_
      refine m_iload dX11_knew_127 0 rfl ?_
      obtain ⟨q5, h⟩ := h
      refine m_idiv dX11_knew_129 q5 ?_
      exact m_ireturn dX11_knew_130 rfl rfl ⟨rfl, _, rfl, h⟩
    · rw [if_pos c1] at h
      refine m_iload dX11_knew_117 3 rfl ?_
      refine m_iload dX11_knew_119 0 rfl ?_
      obtain ⟨q4, h⟩ := h
      refine m_idiv dX11_knew_121 q4 ?_
      refine m_goto (tgt := 130) dX11_knew_122 (by decide) ?_
      exact m_ireturn dX11_knew_130 rfl rfl ⟨rfl, _, rfl, h⟩
  · rw [if_pos c1] at h
    refine m_iload_n dX11_knew_99 rfl 1 rfl ?_
    exact m_ireturn dX11_knew_100 rfl rfl ⟨rfl, _, rfl, h⟩
set_option maxHeartbeats 4000000 in
set_option maxRecDepth 100000 in
theorem e11_knew {d : Nat} {Th : mT} {Q : Int32 → mM → Prop} {a0 : Nat} {x1 : Int32} {x2 : Int32} {x3 : Int32} {M : mM} (h : if x1 < 0 then (Q (-1) M) else (Th.2.2 a0 = some (.inl 11) ∧ (if ((M).1 a0 60) ≤ x1 then (Q (-1) M) else (P11_in d Th x2 1 8 M (fun (v3 : Int32) (M2 : mM) => if v3 = 0 then (Q (-1) M2) else (P11_in d Th x3 0 1 M2 (fun (v5 : Int32) (M4 : mM) => if v5 = 0 then (Q (-1) M4) else (∃ r6 : Nat, M4.2.2 a0 62 = some r6 ∧ (m_ok Th r6 .int x1 ∧ (∃ r9 : Nat, M4.2.2 a0 8 = some r9 ∧ (m_ok Th r9 .int (((M4).1 r6 (Int32.toNatClampNeg x1))) ∧ (∃ r12 : Nat, M4.2.2 a0 63 = some r12 ∧ (m_ok Th r12 .int x1 ∧ (P11_thoughtOf d Th a0 x1 M4 (fun (v16 : Int32) (M15 : mM) => P11_thinks d Th a0 (((M4).1 r6 (Int32.toNatClampNeg x1))) (((M4).1 r9 (Int32.toNatClampNeg (((M4).1 r6 (Int32.toNatClampNeg x1)))))) (((M4).1 r12 (Int32.toNatClampNeg x1))) v16 M15 (fun M17 : mM => ∀ xv19 : Int32, xv19 = ((M17).1 a0 35) → P11_isAfterOne d Th a0 x1 M17 (fun (v21 : Int32) (M20 : mM) => if v21 = 0 then (H11_knew_92 (d + 1) Th Q x3 xv19 (((M20).1 a0 35)) M20) else (H11_knew_92 (d + 1) Th Q x3 xv19 ((((M20).1 a0 35) + x2)) M20)))))))))))))))))) : P11_knew (d + 1) Th a0 x1 x2 x3 M Q := by
  refine m_C.of (by decide +kernel) (Nat.le_of_ble_eq_true rfl) ?_
  show m_W (d + 1) 0 0 yX11_knew cX11_knew 7 (some .int) (m_qi Th Q) 0 [(0, .ref a0), (1, .int x1), (2, .int x2), (3, .int x3)] [] Th M 0 0
  refine m_iload_n dX11_knew_0 rfl 1 rfl ?_
  refine m_if_lt (tgt := 31) dX11_knew_1 (by decide) (fun c1 => ?_) (fun c1 => ?_)
  · rw [if_pos c1] at h
    refine m_iconst (v := (-1)) dX11_knew_31 (by decide) ?_
    exact m_ireturn dX11_knew_32 rfl rfl ⟨rfl, _, rfl, h⟩
  · rw [if_neg c1] at h
    refine m_iload_n dX11_knew_4 rfl 1 rfl ?_
    refine m_aload_n dX11_knew_5 rfl 0 rfl ?_
    obtain ⟨q1, h⟩ := h
    refine m_geti f_X11_429 rfl dX11_knew_6 q1 ?_
    refine m_icmp_ge (tgt := 31) dX11_knew_9 (by decide) (fun c1 => ?_) (fun c1 => ?_)
    · rw [if_pos c1] at h
      refine m_iconst (v := (-1)) dX11_knew_31 (by decide) ?_
      exact m_ireturn dX11_knew_32 rfl rfl ⟨rfl, _, rfl, h⟩
    · rw [if_neg c1] at h
      refine m_iload_n dX11_knew_12 rfl 2 rfl ?_
      refine m_iconst (v := 1) dX11_knew_13 (by decide) ?_
      refine m_bipush (v := 8) dX11_knew_14 (by decide) ?_
      refine m_invS (As := [.int x2, .int 1, .int 8]) (d' := d) (mc' := 0) (ms' := 0) (rest := []) i_11_in s_11_in l_X11_148 dX11_knew_16 rfl rfl (Nat.le_of_ble_eq_true rfl) (Nat.le_refl _) ⟨Nat.le_refl _, Nat.le_refl _⟩ (m_Ci h (fun v3 M2 h => ?_))
      show m_W (d + 1) 0 0 yX11_knew cX11_knew 7 (some .int) (m_qi Th Q) 19 [(0, .ref a0), (1, .int x1), (2, .int x2), (3, .int x3)] [.int v3] Th M2 0 0
      refine m_if_eq (tgt := 31) dX11_knew_19 (by decide) (fun c1 => ?_) (fun c1 => ?_)
      · rw [if_pos c1] at h
        refine m_iconst (v := (-1)) dX11_knew_31 (by decide) ?_
        exact m_ireturn dX11_knew_32 rfl rfl ⟨rfl, _, rfl, h⟩
      · rw [if_neg c1] at h
        refine m_iload_n dX11_knew_22 rfl 3 rfl ?_
        refine m_iconst (v := 0) dX11_knew_23 (by decide) ?_
        refine m_iconst (v := 1) dX11_knew_24 (by decide) ?_
        refine m_invS (As := [.int x3, .int 0, .int 1]) (d' := d) (mc' := 0) (ms' := 0) (rest := []) i_11_in s_11_in l_X11_148 dX11_knew_25 rfl rfl (Nat.le_of_ble_eq_true rfl) (Nat.le_refl _) ⟨Nat.le_refl _, Nat.le_refl _⟩ (m_Ci h (fun v5 M4 h => ?_))
        show m_W (d + 1) 0 0 yX11_knew cX11_knew 7 (some .int) (m_qi Th Q) 28 [(0, .ref a0), (1, .int x1), (2, .int x2), (3, .int x3)] [.int v5] Th M4 0 0
        refine m_if_ne (tgt := 33) dX11_knew_28 (by decide) (fun c1 => ?_) (fun c1 => ?_)
        · rw [if_neg c1] at h
          refine m_aload_n dX11_knew_33 rfl 0 rfl ?_
          refine m_aload_n dX11_knew_34 rfl 0 rfl ?_
          obtain ⟨r6, q7, h⟩ := h
          refine m_getr f_X11_116 rfl dX11_knew_35 q1 q7 ?_
          refine m_iload_n dX11_knew_38 rfl 1 rfl ?_
          obtain ⟨q8, h⟩ := h
          refine m_iald dX11_knew_39 q8 ?_
          refine m_aload_n dX11_knew_40 rfl 0 rfl ?_
          obtain ⟨r9, q10, h⟩ := h
          refine m_getr f_X11_19 rfl dX11_knew_41 q1 q10 ?_
          refine m_aload_n dX11_knew_44 rfl 0 rfl ?_
          refine m_getr f_X11_116 rfl dX11_knew_45 q1 q7 ?_
          refine m_iload_n dX11_knew_48 rfl 1 rfl ?_
          refine m_iald dX11_knew_49 q8 ?_
          obtain ⟨q11, h⟩ := h
          refine m_iald dX11_knew_50 q11 ?_
          refine m_aload_n dX11_knew_51 rfl 0 rfl ?_
          obtain ⟨r12, q13, h⟩ := h
          refine m_getr f_X11_119 rfl dX11_knew_52 q1 q13 ?_
          refine m_iload_n dX11_knew_55 rfl 1 rfl ?_
          obtain ⟨q14, h⟩ := h
          refine m_iald dX11_knew_56 q14 ?_
          refine m_aload_n dX11_knew_57 rfl 0 rfl ?_
          refine m_iload_n dX11_knew_58 rfl 1 rfl ?_
          refine m_invV (ci := 11) (As := [.int x1]) (d' := d) (mc' := 0) (ms' := 0) (rest := [.int (((M4).1 r12 (Int32.toNatClampNeg x1))), .int (((M4).1 r9 (Int32.toNatClampNeg (((M4).1 r6 (Int32.toNatClampNeg x1)))))), .int (((M4).1 r6 (Int32.toNatClampNeg x1))), .ref a0]) i_11_thoughtOf v_11_thoughtOf t_11_thoughtOf l_X11_439 ⟨_, _, rfl⟩ dX11_knew_59 rfl rfl q1 (Nat.le_of_ble_eq_true rfl) (Nat.le_refl _) ⟨Nat.le_refl _, Nat.le_refl _⟩ (m_Ci h (fun v16 M15 h => ?_))
          show m_W (d + 1) 0 0 yX11_knew cX11_knew 7 (some .int) (m_qi Th Q) 62 [(0, .ref a0), (1, .int x1), (2, .int x2), (3, .int x3)] [.int v16, .int (((M4).1 r12 (Int32.toNatClampNeg x1))), .int (((M4).1 r9 (Int32.toNatClampNeg (((M4).1 r6 (Int32.toNatClampNeg x1)))))), .int (((M4).1 r6 (Int32.toNatClampNeg x1))), .ref a0] Th M15 0 0
          refine m_invV (ci := 11) (As := [.int (((M4).1 r6 (Int32.toNatClampNeg x1))), .int (((M4).1 r9 (Int32.toNatClampNeg (((M4).1 r6 (Int32.toNatClampNeg x1)))))), .int (((M4).1 r12 (Int32.toNatClampNeg x1))), .int v16]) (d' := d) (mc' := 0) (ms' := 0) (rest := []) i_11_thinks v_11_thinks t_11_thinks l_X11_288 ⟨_, _, rfl⟩ dX11_knew_62 rfl rfl q1 (Nat.le_of_ble_eq_true rfl) (Nat.le_refl _) ⟨Nat.le_refl _, Nat.le_refl _⟩ (m_Cv h (fun M17 h => ?_))
          show m_W (d + 1) 0 0 yX11_knew cX11_knew 7 (some .int) (m_qi Th Q) 65 [(0, .ref a0), (1, .int x1), (2, .int x2), (3, .int x3)] [] Th M17 0 0
          refine m_aload_n dX11_knew_65 rfl 0 rfl ?_
          refine m_geti f_X11_282 rfl dX11_knew_66 q1 ?_
          obtain ⟨xv19, e_xv19⟩ : ∃ xv19 : Int32, xv19 = ((M17).1 a0 35) := ⟨_, rfl⟩
          have h := h xv19 e_xv19
          rw [← e_xv19]
          refine m_istore (lv' := [(4, .int xv19), (0, .ref a0), (1, .int x1), (2, .int x2), (3, .int x3)]) dX11_knew_69 (by decide) rfl ?_
          refine m_aload_n dX11_knew_71 rfl 1 rfl ?_
          refine m_iload_n dX11_knew_72 rfl 2 rfl ?_
          refine m_invV (ci := 11) (As := [.int x1]) (d' := d) (mc' := 0) (ms' := 0) (rest := []) i_11_isAfterOne v_11_isAfterOne t_11_isAfterOne l_X11_442 ⟨_, _, rfl⟩ dX11_knew_73 rfl rfl q1 (Nat.le_of_ble_eq_true rfl) (Nat.le_refl _) ⟨Nat.le_refl _, Nat.le_refl _⟩ (m_Ci h (fun v21 M20 h => ?_))
          show m_W (d + 1) 0 0 yX11_knew cX11_knew 7 (some .int) (m_qi Th Q) 76 [(4, .int xv19), (0, .ref a0), (1, .int x1), (2, .int x2), (3, .int x3)] [.int v21] Th M20 0 0
          refine m_if_eq (tgt := 88) dX11_knew_76 (by decide) (fun c1 => ?_) (fun c1 => ?_)
          · rw [if_pos c1] at h
            refine m_aload_n dX11_knew_88 rfl 1 rfl ?_
            refine m_geti f_X11_282 rfl dX11_knew_89 q1 ?_
            exact m_sub [4, 0] rfl h
          · rw [if_neg c1] at h
            refine m_aload_n dX11_knew_79 rfl 1 rfl ?_
            refine m_geti f_X11_282 rfl dX11_knew_80 q1 ?_
            refine m_iload_n dX11_knew_83 rfl 3 rfl ?_
            refine m_iadd dX11_knew_84 ?_
            refine m_goto (tgt := 92) dX11_knew_85 (by decide) ?_
            exact m_sub [4, 0] rfl h
        · rw [if_pos c1] at h
          refine m_iconst (v := (-1)) dX11_knew_31 (by decide) ?_
          exact m_ireturn dX11_knew_32 rfl rfl ⟨rfl, _, rfl, h⟩
set_option maxHeartbeats 4000000 in
set_option maxRecDepth 100000 in
theorem e11_seed {d : Nat} {Th : mT} {Q : Int32 → mM → Prop} {a0 : Nat} {x1 : Int32} {M : mM} (h : P11_in d Th x1 0 65535 M (fun (v2 : Int32) (M1 : mM) => if v2 = 0 then (Q 0 M1) else (Th.2.2 a0 = some (.inl 11) ∧ (Q 1 (m_ui M1 a0 4 x1))))) : P11_seed (d + 1) Th a0 x1 M Q := by
  refine m_C.of (by decide +kernel) (Nat.le_of_ble_eq_true rfl) ?_
  show m_W (d + 1) 0 0 yX11_seed cX11_seed 2 (some .boolean) (m_qi Th Q) 0 [(0, .ref a0), (1, .int x1)] [] Th M 0 0
  refine m_iload_n dX11_seed_0 rfl 1 rfl ?_
  refine m_iconst (v := 0) dX11_seed_1 (by decide) ?_
  refine m_ldc_w k_X11_445 dX11_seed_2 ?_
  refine m_invS (As := [.int x1, .int 0, .int 65535]) (d' := d) (mc' := 0) (ms' := 0) (rest := []) i_11_in s_11_in l_X11_148 dX11_seed_5 rfl rfl (Nat.le_of_ble_eq_true rfl) (Nat.le_refl _) ⟨Nat.le_refl _, Nat.le_refl _⟩ (m_Ci h (fun v2 M1 h => ?_))
  show m_W (d + 1) 0 0 yX11_seed cX11_seed 2 (some .boolean) (m_qi Th Q) 8 [(0, .ref a0), (1, .int x1)] [.int v2] Th M1 0 0
  refine m_if_ne (tgt := 13) dX11_seed_8 (by decide) (fun c1 => ?_) (fun c1 => ?_)
  · rw [if_neg c1] at h
    refine m_aload_n dX11_seed_13 rfl 0 rfl ?_
    refine m_iload_n dX11_seed_14 rfl 1 rfl ?_
    obtain ⟨q3, h⟩ := h
    refine m_puti f_X11_135 rfl (Or.inl rfl) dX11_seed_15 q3 ⟨rfl, rfl⟩ ?_
    refine m_iconst (v := 1) dX11_seed_18 (by decide) ?_
    exact m_ireturn dX11_seed_19 rfl (by decide) ⟨rfl, _, rfl, h⟩
  · rw [if_pos c1] at h
    refine m_iconst (v := 0) dX11_seed_11 (by decide) ?_
    exact m_ireturn dX11_seed_12 rfl (by decide) ⟨rfl, _, rfl, h⟩
set_option maxHeartbeats 4000000 in
set_option maxRecDepth 100000 in
theorem h11_seesOne_21 {d : Nat} {Th : mT} {Q : Int32 → mM → Prop} {a0 : Nat} {x1 : Int32} {x2 : Int32} {x3 : Int32} {M : mM} (h : Th.2.2 a0 = some (.inl 11) ∧ (if ((M).1 a0 1) ≤ x3 then (Q 0 M) else (if x3 = x1 then (H11_seesOne_21 (d + 1) Th Q a0 x1 x2 (x3 + 1) M) else (∃ r2 : Nat, M.2.2 a0 66 = some r2 ∧ (m_ok Th r2 .int x1 ∧ (P11_logsAt d Th a0 x3 ((((M).1 r2 (Int32.toNatClampNeg x1)) / 16)) ((x2 - 1)) M (fun (v6 : Int32) (M5 : mM) => if v6 = 0 then (H11_seesOne_21 (d + 1) Th Q a0 x1 x2 (x3 + 1) M5) else (Q 1 M5)))))))) : H11_seesOne_21 (d + 1) Th Q a0 x1 x2 x3 M := by
  show m_W (d + 1) 0 0 yX11_seesOne cX11_seesOne 4 (some .boolean) (m_qi Th Q) 21 [(0, .ref a0), (1, .int x1), (2, .int x2), (3, .int x3)] [] Th M 0 0
  refine m_iload_n dX11_seesOne_21 rfl 3 rfl ?_
  refine m_aload_n dX11_seesOne_22 rfl 0 rfl ?_
  obtain ⟨q1, h⟩ := h
  refine m_geti f_X11_138 rfl dX11_seesOne_23 q1 ?_
  refine m_icmp_ge (tgt := 62) dX11_seesOne_26 (by decide) (fun c1 => ?_) (fun c1 => ?_)
  · rw [if_pos c1] at h
    refine m_iconst (v := 0) dX11_seesOne_62 (by decide) ?_
    exact m_ireturn dX11_seesOne_63 rfl (by decide) ⟨rfl, _, rfl, h⟩
  · rw [if_neg c1] at h
    refine m_iload_n dX11_seesOne_29 rfl 3 rfl ?_
    refine m_iload_n dX11_seesOne_30 rfl 1 rfl ?_
    refine m_icmp_eq (tgt := 56) dX11_seesOne_31 (by decide) (fun c1 => ?_) (fun c1 => ?_)
    · rw [if_pos c1] at h
      refine m_iinc (v := x3 + 1) (lv' := [(3, .int (x3 + 1)), (0, .ref a0), (1, .int x1), (2, .int x2)]) dX11_seesOne_56 3 rfl rfl (by decide) rfl ?_
      refine m_goto (tgt := 21) dX11_seesOne_59 (by decide) ?_
      exact m_sub [1, 2, 3, 0] rfl h
    · rw [if_neg c1] at h
      refine m_aload_n dX11_seesOne_34 rfl 0 rfl ?_
      refine m_iload_n dX11_seesOne_35 rfl 3 rfl ?_
      refine m_aload_n dX11_seesOne_36 rfl 0 rfl ?_
      obtain ⟨r2, q3, h⟩ := h
      refine m_getr f_X11_128 rfl dX11_seesOne_37 q1 q3 ?_
      refine m_iload_n dX11_seesOne_40 rfl 1 rfl ?_
      obtain ⟨q4, h⟩ := h
      refine m_iald dX11_seesOne_41 q4 ?_
      refine m_bipush (v := 16) dX11_seesOne_42 (by decide) ?_
      refine m_idiv dX11_seesOne_44 (by decide) ?_
      refine m_iload_n dX11_seesOne_45 rfl 2 rfl ?_
      refine m_iconst (v := 1) dX11_seesOne_46 (by decide) ?_
      refine m_isub dX11_seesOne_47 ?_
      refine m_invV (ci := 11) (As := [.int x3, .int ((((M).1 r2 (Int32.toNatClampNeg x1)) / 16)), .int ((x2 - 1))]) (d' := d) (mc' := 0) (ms' := 0) (rest := []) i_11_logsAt v_11_logsAt t_11_logsAt l_X11_446 ⟨_, _, rfl⟩ dX11_seesOne_48 rfl rfl q1 (Nat.le_of_ble_eq_true rfl) (Nat.le_refl _) ⟨Nat.le_refl _, Nat.le_refl _⟩ (m_Ci h (fun v6 M5 h => ?_))
      show m_W (d + 1) 0 0 yX11_seesOne cX11_seesOne 4 (some .boolean) (m_qi Th Q) 51 [(0, .ref a0), (1, .int x1), (2, .int x2), (3, .int x3)] [.int v6] Th M5 0 0
      refine m_if_eq (tgt := 56) dX11_seesOne_51 (by decide) (fun c1 => ?_) (fun c1 => ?_)
      · rw [if_pos c1] at h
        refine m_iinc (v := x3 + 1) (lv' := [(3, .int (x3 + 1)), (0, .ref a0), (1, .int x1), (2, .int x2)]) dX11_seesOne_56 3 rfl rfl (by decide) rfl ?_
        refine m_goto (tgt := 21) dX11_seesOne_59 (by decide) ?_
        exact m_sub [1, 2, 3, 0] rfl h
      · rw [if_neg c1] at h
        refine m_iconst (v := 1) dX11_seesOne_54 (by decide) ?_
        exact m_ireturn dX11_seesOne_55 rfl (by decide) ⟨rfl, _, rfl, h⟩
set_option maxHeartbeats 4000000 in
set_option maxRecDepth 100000 in
theorem e11_seesOne {d : Nat} {Th : mT} {Q : Int32 → mM → Prop} {a0 : Nat} {x1 : Int32} {x2 : Int32} {M : mM} (h : Th.2.2 a0 = some (.inl 11) ∧ (∃ r2 : Nat, M.2.2 a0 10 = some r2 ∧ (m_ok Th r2 .int x1 ∧ (if ((M).1 r2 (Int32.toNatClampNeg x1)) = 0 then (Q 0 M) else (if ((M).1 a0 3) = 1 then (Q 0 M) else (H11_seesOne_21 (d + 1) Th Q a0 x1 x2 0 M)))))) : P11_seesOne (d + 1) Th a0 x1 x2 M Q := by
  refine m_C.of (by decide +kernel) (Nat.le_of_ble_eq_true rfl) ?_
  show m_W (d + 1) 0 0 yX11_seesOne cX11_seesOne 4 (some .boolean) (m_qi Th Q) 0 [(0, .ref a0), (1, .int x1), (2, .int x2)] [] Th M 0 0
  refine m_aload_n dX11_seesOne_0 rfl 0 rfl ?_
  obtain ⟨q1, h⟩ := h
  obtain ⟨r2, q3, h⟩ := h
  refine m_getr f_X11_25 rfl dX11_seesOne_1 q1 q3 ?_
  refine m_iload_n dX11_seesOne_4 rfl 1 rfl ?_
  obtain ⟨q4, h⟩ := h
  refine m_iald dX11_seesOne_5 q4 ?_
  refine m_if_eq (tgt := 17) dX11_seesOne_6 (by decide) (fun c1 => ?_) (fun c1 => ?_)
  · rw [if_pos c1] at h
    refine m_iconst (v := 0) dX11_seesOne_17 (by decide) ?_
    exact m_ireturn dX11_seesOne_18 rfl (by decide) ⟨rfl, _, rfl, h⟩
  · rw [if_neg c1] at h
    refine m_aload_n dX11_seesOne_9 rfl 0 rfl ?_
    refine m_geti f_X11_159 rfl dX11_seesOne_10 q1 ?_
    refine m_iconst (v := 1) dX11_seesOne_13 (by decide) ?_
    refine m_icmp_ne (tgt := 19) dX11_seesOne_14 (by decide) (fun c1 => ?_) (fun c1 => ?_)
    · rw [if_neg c1] at h
      refine m_iconst (v := 0) dX11_seesOne_19 (by decide) ?_
      refine m_istore_n (lv' := [(3, .int 0), (0, .ref a0), (1, .int x1), (2, .int x2)]) dX11_seesOne_20 rfl (by decide) rfl ?_
      exact m_sub [1, 2, 3, 0] rfl h
    · rw [if_pos c1] at h
      refine m_iconst (v := 0) dX11_seesOne_17 (by decide) ?_
      exact m_ireturn dX11_seesOne_18 rfl (by decide) ⟨rfl, _, rfl, h⟩
set_option maxHeartbeats 4000000 in
set_option maxRecDepth 100000 in
theorem h11_logsAt_3 {d : Nat} {Th : mT} {Q : Int32 → mM → Prop} {a0 : Nat} {x1 : Int32} {x2 : Int32} {x3 : Int32} {x4 : Int32} {M : mM} (h : Th.2.2 a0 = some (.inl 11) ∧ (if ((M).1 a0 60) ≤ x4 then (Q 0 M) else (∃ r2 : Nat, M.2.2 a0 62 = some r2 ∧ (m_ok Th r2 .int x4 ∧ (if ((M).1 r2 (Int32.toNatClampNeg x4)) = x1 then (∃ r5 : Nat, M.2.2 a0 63 = some r5 ∧ (m_ok Th r5 .int x4 ∧ (if ((M).1 r5 (Int32.toNatClampNeg x4)) = x2 then (∃ r8 : Nat, M.2.2 a0 64 = some r8 ∧ (m_ok Th r8 .int x4 ∧ (if ((M).1 r8 (Int32.toNatClampNeg x4)) = x3 then (Q 1 M) else (H11_logsAt_3 (d + 1) Th Q a0 x1 x2 x3 (x4 + 1) M)))) else (H11_logsAt_3 (d + 1) Th Q a0 x1 x2 x3 (x4 + 1) M)))) else (H11_logsAt_3 (d + 1) Th Q a0 x1 x2 x3 (x4 + 1) M)))))) : H11_logsAt_3 (d + 1) Th Q a0 x1 x2 x3 x4 M := by
  show m_W (d + 1) 0 0 yX11_logsAt cX11_logsAt 5 (some .boolean) (m_qi Th Q) 3 [(0, .ref a0), (1, .int x1), (2, .int x2), (3, .int x3), (4, .int x4)] [] Th M 0 0
  refine m_iload dX11_logsAt_3 4 rfl ?_
  refine m_aload_n dX11_logsAt_5 rfl 0 rfl ?_
  obtain ⟨q1, h⟩ := h
  refine m_geti f_X11_429 rfl dX11_logsAt_6 q1 ?_
  refine m_icmp_ge (tgt := 53) dX11_logsAt_9 (by decide) (fun c1 => ?_) (fun c1 => ?_)
  · rw [if_pos c1] at h
    refine m_iconst (v := 0) dX11_logsAt_53 (by decide) ?_
    exact m_ireturn dX11_logsAt_54 rfl (by decide) ⟨rfl, _, rfl, h⟩
  · rw [if_neg c1] at h
    refine m_aload_n dX11_logsAt_12 rfl 0 rfl ?_
    obtain ⟨r2, q3, h⟩ := h
    refine m_getr f_X11_116 rfl dX11_logsAt_13 q1 q3 ?_
    refine m_iload dX11_logsAt_16 4 rfl ?_
    obtain ⟨q4, h⟩ := h
    refine m_iald dX11_logsAt_18 q4 ?_
    refine m_iload_n dX11_logsAt_19 rfl 1 rfl ?_
    refine m_icmp_ne (tgt := 47) dX11_logsAt_20 (by decide) (fun c1 => ?_) (fun c1 => ?_)
    · rw [if_neg c1] at h
      refine m_iinc (v := x4 + 1) (lv' := [(4, .int (x4 + 1)), (0, .ref a0), (1, .int x1), (2, .int x2), (3, .int x3)]) dX11_logsAt_47 4 rfl rfl (by decide) rfl ?_
      refine m_goto (tgt := 3) dX11_logsAt_50 (by decide) ?_
      exact m_sub [1, 2, 3, 4, 0] rfl h
    · rw [if_pos c1] at h
      refine m_aload_n dX11_logsAt_23 rfl 0 rfl ?_
      obtain ⟨r5, q6, h⟩ := h
      refine m_getr f_X11_119 rfl dX11_logsAt_24 q1 q6 ?_
      refine m_iload dX11_logsAt_27 4 rfl ?_
      obtain ⟨q7, h⟩ := h
      refine m_iald dX11_logsAt_29 q7 ?_
      refine m_iload_n dX11_logsAt_30 rfl 2 rfl ?_
      refine m_icmp_ne (tgt := 47) dX11_logsAt_31 (by decide) (fun c1 => ?_) (fun c1 => ?_)
      · rw [if_neg c1] at h
        refine m_iinc (v := x4 + 1) (lv' := [(4, .int (x4 + 1)), (0, .ref a0), (1, .int x1), (2, .int x2), (3, .int x3)]) dX11_logsAt_47 4 rfl rfl (by decide) rfl ?_
        refine m_goto (tgt := 3) dX11_logsAt_50 (by decide) ?_
        exact m_sub [1, 2, 3, 4, 0] rfl h
      · rw [if_pos c1] at h
        refine m_aload_n dX11_logsAt_34 rfl 0 rfl ?_
        obtain ⟨r8, q9, h⟩ := h
        refine m_getr f_X11_122 rfl dX11_logsAt_35 q1 q9 ?_
        refine m_iload dX11_logsAt_38 4 rfl ?_
        obtain ⟨q10, h⟩ := h
        refine m_iald dX11_logsAt_40 q10 ?_
        refine m_iload_n dX11_logsAt_41 rfl 3 rfl ?_
        refine m_icmp_ne (tgt := 47) dX11_logsAt_42 (by decide) (fun c1 => ?_) (fun c1 => ?_)
        · rw [if_neg c1] at h
          refine m_iinc (v := x4 + 1) (lv' := [(4, .int (x4 + 1)), (0, .ref a0), (1, .int x1), (2, .int x2), (3, .int x3)]) dX11_logsAt_47 4 rfl rfl (by decide) rfl ?_
          refine m_goto (tgt := 3) dX11_logsAt_50 (by decide) ?_
          exact m_sub [1, 2, 3, 4, 0] rfl h
        · rw [if_pos c1] at h
          refine m_iconst (v := 1) dX11_logsAt_45 (by decide) ?_
          exact m_ireturn dX11_logsAt_46 rfl (by decide) ⟨rfl, _, rfl, h⟩
set_option maxHeartbeats 4000000 in
set_option maxRecDepth 100000 in
theorem e11_logsAt {d : Nat} {Th : mT} {Q : Int32 → mM → Prop} {a0 : Nat} {x1 : Int32} {x2 : Int32} {x3 : Int32} {M : mM} (h : H11_logsAt_3 (d + 1) Th Q a0 x1 x2 x3 0 M) : P11_logsAt (d + 1) Th a0 x1 x2 x3 M Q := by
  refine m_C.of (by decide +kernel) (Nat.le_of_ble_eq_true rfl) ?_
  show m_W (d + 1) 0 0 yX11_logsAt cX11_logsAt 5 (some .boolean) (m_qi Th Q) 0 [(0, .ref a0), (1, .int x1), (2, .int x2), (3, .int x3)] [] Th M 0 0
  refine m_iconst (v := 0) dX11_logsAt_0 (by decide) ?_
  refine m_istore (lv' := [(4, .int 0), (0, .ref a0), (1, .int x1), (2, .int x2), (3, .int x3)]) dX11_logsAt_1 (by decide) rfl ?_
  exact m_sub [1, 2, 3, 4, 0] rfl h
set_option maxHeartbeats 4000000 in
set_option maxRecDepth 100000 in
theorem h11_hunts_119 {d : Nat} {Th : mT} {Q : mM → Prop} {a0 : Nat} {x1 : Int32} {x2 : Int32} {M : mM} (h : Th.2.2 a0 = some (.inl 11) ∧ (∃ r2 : Nat, M.2.2 a0 66 = some r2 ∧ (m_ok Th r2 .int x1 ∧ (if ((M).1 r2 (Int32.toNatClampNeg x1)) = 80 then (∃ r5 : Nat, M.2.2 a0 65 = some r5 ∧ (m_okw Th r5 .int x1 ∧ (Q (m_ui M r5 (Int32.toNatClampNeg x1) x2)))) else (Q M))))) : H11_hunts_119 (d + 1) Th Q a0 x1 x2 M := by
  show m_W (d + 1) 0 0 yX11_hunts cX11_hunts 6 none (m_qv Th Q) 119 [(0, .ref a0), (1, .int x1), (2, .int x2)] [] Th M 0 0
  refine m_aload_n dX11_hunts_119 rfl 0 rfl ?_
  obtain ⟨q1, h⟩ := h
  obtain ⟨r2, q3, h⟩ := h
  refine m_getr f_X11_128 rfl dX11_hunts_120 q1 q3 ?_
  refine m_iload_n dX11_hunts_123 rfl 1 rfl ?_
  obtain ⟨q4, h⟩ := h
  refine m_iald dX11_hunts_124 q4 ?_
  refine m_bipush (v := 80) dX11_hunts_125 (by decide) ?_
  refine m_icmp_ne (tgt := 137) dX11_hunts_127 (by decide) (fun c1 => ?_) (fun c1 => ?_)
  · rw [if_neg c1] at h
    exact m_return dX11_hunts_137 rfl ⟨rfl, rfl, h⟩
  · rw [if_pos c1] at h
    refine m_aload_n dX11_hunts_130 rfl 0 rfl ?_
    obtain ⟨r5, q6, h⟩ := h
    refine m_getr f_X11_125 rfl dX11_hunts_131 q1 q6 ?_
    refine m_iload_n dX11_hunts_134 rfl 1 rfl ?_
    refine m_iload_n dX11_hunts_135 rfl 2 rfl ?_
    obtain ⟨q7, h⟩ := h
    refine m_iast dX11_hunts_136 q7 ?_
    exact m_return dX11_hunts_137 rfl ⟨rfl, rfl, h⟩
set_option maxHeartbeats 4000000 in
set_option maxRecDepth 100000 in
theorem e11_hunts {d : Nat} {Th : mT} {Q : mM → Prop} {a0 : Nat} {x1 : Int32} {x2 : Int32} {M : mM} (h : Th.2.2 a0 = some (.inl 11) ∧ (∃ r2 : Nat, M.2.2 a0 66 = some r2 ∧ (m_ok Th r2 .int x1 ∧ (∀ xv5 : Int32, xv5 = ((M).1 r2 (Int32.toNatClampNeg x1)) → if xv5 = 80 then (Q M) else (∀ xv6 : Int32, xv6 = (xv5 / 16) → if (xv5 - xv5 / 16 * 16) ≤ 5 then (P11_seesOne d Th a0 x1 x2 M (fun (v8 : Int32) (M7 : mM) => if v8 = 0 then (P11_draws d Th a0 x1 xv6 ((xv5 - xv5 / 16 * 16)) x2 M7 (fun M9 : mM => H11_hunts_119 (d + 1) Th Q a0 x1 x2 M9)) else (P11_puts d Th a0 x1 xv6 x2 M7 (fun M11 : mM => ∃ r13 : Nat, M11.2.2 a0 66 = some r13 ∧ (P11_walkOf d Th a0 x1 xv6 M11 (fun (v16 : Int32) (M15 : mM) => P11_yWalks d Th a0 xv6 ((v16 - 1)) M15 (fun (v18 : Int32) (M17 : mM) => m_okw Th r13 .int x1 ∧ (H11_hunts_119 (d + 1) Th Q a0 x1 x2 (m_ui M17 r13 (Int32.toNatClampNeg x1) v18))))))))) else (P11_goesOn d Th xv5 (((M).1 a0 0)) M (fun (v21 : Int32) (M20 : mM) => ∃ r22 : Nat, M20.2.2 a0 66 = some r22 ∧ (m_okw Th r22 .int x1 ∧ (H11_hunts_119 (d + 1) Th Q a0 x1 x2 (m_ui M20 r22 (Int32.toNatClampNeg x1) ((if v21 = (16 * ((M20).1 a0 0)) then 80 else v21)))))))))))) : P11_hunts (d + 1) Th a0 x1 x2 M Q := by
  refine m_C.of (by decide +kernel) (Nat.le_of_ble_eq_true rfl) ?_
  show m_W (d + 1) 0 0 yX11_hunts cX11_hunts 6 none (m_qv Th Q) 0 [(0, .ref a0), (1, .int x1), (2, .int x2)] [] Th M 0 0
  refine m_aload_n dX11_hunts_0 rfl 0 rfl ?_
  obtain ⟨q1, h⟩ := h
  obtain ⟨r2, q3, h⟩ := h
  refine m_getr f_X11_128 rfl dX11_hunts_1 q1 q3 ?_
  refine m_iload_n dX11_hunts_4 rfl 1 rfl ?_
  obtain ⟨q4, h⟩ := h
  refine m_iald dX11_hunts_5 q4 ?_
  obtain ⟨xv5, e_xv5⟩ : ∃ xv5 : Int32, xv5 = ((M).1 r2 (Int32.toNatClampNeg x1)) := ⟨_, rfl⟩
  have h := h xv5 e_xv5
  rw [← e_xv5]
  refine m_istore_n (lv' := [(3, .int xv5), (0, .ref a0), (1, .int x1), (2, .int x2)]) dX11_hunts_6 rfl (by decide) rfl ?_
  refine m_iload_n dX11_hunts_7 rfl 0 rfl ?_
  refine m_bipush (v := 80) dX11_hunts_8 (by decide) ?_
  refine m_icmp_ne (tgt := 14) dX11_hunts_10 (by decide) (fun c1 => ?_) (fun c1 => ?_)
  · rw [if_neg c1] at h
    refine m_iload_n dX11_hunts_14 rfl 0 rfl ?_
    refine m_bipush (v := 16) dX11_hunts_15 (by decide) ?_
    refine m_idiv dX11_hunts_17 (by decide) ?_
    obtain ⟨xv6, e_xv6⟩ : ∃ xv6 : Int32, xv6 = (xv5 / 16) := ⟨_, rfl⟩
    have h := h xv6 e_xv6
    rw [← e_xv6]
    refine m_istore (lv' := [(4, .int xv6), (3, .int xv5), (0, .ref a0), (1, .int x1), (2, .int x2)]) dX11_hunts_18 (by decide) rfl ?_
    refine m_iload_n dX11_hunts_20 rfl 1 rfl ?_
    refine m_bipush (v := 16) dX11_hunts_21 (by decide) ?_
    refine m_irem dX11_hunts_23 (by decide) ?_
    refine m_iconst (v := 5) dX11_hunts_24 (by decide) ?_
    refine m_icmp_le (tgt := 66) dX11_hunts_25 (by decide) (fun c1 => ?_) (fun c1 => ?_)
    · rw [if_pos c1] at h
      refine m_aload_n dX11_hunts_66 rfl 2 rfl ?_
      refine m_iload_n dX11_hunts_67 rfl 3 rfl ?_
      refine m_iload_n dX11_hunts_68 rfl 4 rfl ?_
      refine m_invV (ci := 11) (As := [.int x1, .int x2]) (d' := d) (mc' := 0) (ms' := 0) (rest := []) i_11_seesOne v_11_seesOne t_11_seesOne l_X11_449 ⟨_, _, rfl⟩ dX11_hunts_69 rfl rfl q1 (Nat.le_of_ble_eq_true rfl) (Nat.le_refl _) ⟨Nat.le_refl _, Nat.le_refl _⟩ (m_Ci h (fun v8 M7 h => ?_))
      show m_W (d + 1) 0 0 yX11_hunts cX11_hunts 6 none (m_qv Th Q) 72 [(4, .int xv6), (3, .int xv5), (0, .ref a0), (1, .int x1), (2, .int x2)] [.int v8] Th M7 0 0
      refine m_if_eq (tgt := 107) dX11_hunts_72 (by decide) (fun c1 => ?_) (fun c1 => ?_)
      · rw [if_pos c1] at h
        refine m_aload_n dX11_hunts_107 rfl 2 rfl ?_
        refine m_iload_n dX11_hunts_108 rfl 3 rfl ?_
        refine m_iload dX11_hunts_109 0 rfl ?_
        refine m_iload_n dX11_hunts_111 rfl 1 rfl ?_
        refine m_bipush (v := 16) dX11_hunts_112 (by decide) ?_
        refine m_irem dX11_hunts_114 (by decide) ?_
        refine m_iload_n dX11_hunts_115 rfl 4 rfl ?_
        refine m_invV (ci := 11) (As := [.int x1, .int xv6, .int ((xv5 - xv5 / 16 * 16)), .int x2]) (d' := d) (mc' := 0) (ms' := 0) (rest := []) i_11_draws v_11_draws t_11_draws l_X11_452 ⟨_, _, rfl⟩ dX11_hunts_116 rfl rfl q1 (Nat.le_of_ble_eq_true rfl) (Nat.le_refl _) ⟨Nat.le_refl _, Nat.le_refl _⟩ (m_Cv h (fun M9 h => ?_))
        show m_W (d + 1) 0 0 yX11_hunts cX11_hunts 6 none (m_qv Th Q) 119 [(4, .int xv6), (3, .int xv5), (0, .ref a0), (1, .int x1), (2, .int x2)] [] Th M9 0 0
        exact m_sub [2, 3, 4] rfl h
      · rw [if_neg c1] at h
        refine m_aload_n dX11_hunts_75 rfl 2 rfl ?_
        refine m_iload_n dX11_hunts_76 rfl 3 rfl ?_
        refine m_iload dX11_hunts_77 0 rfl ?_
        refine m_iload_n dX11_hunts_79 rfl 4 rfl ?_
        refine m_invV (ci := 11) (As := [.int x1, .int xv6, .int x2]) (d' := d) (mc' := 0) (ms' := 0) (rest := []) i_11_puts v_11_puts t_11_puts l_X11_436 ⟨_, _, rfl⟩ dX11_hunts_80 rfl rfl q1 (Nat.le_of_ble_eq_true rfl) (Nat.le_refl _) ⟨Nat.le_refl _, Nat.le_refl _⟩ (m_Cv h (fun M11 h => ?_))
        show m_W (d + 1) 0 0 yX11_hunts cX11_hunts 6 none (m_qv Th Q) 83 [(4, .int xv6), (3, .int xv5), (0, .ref a0), (1, .int x1), (2, .int x2)] [] Th M11 0 0
        refine m_aload_n dX11_hunts_83 rfl 2 rfl ?_
        obtain ⟨r13, q14, h⟩ := h
        refine m_getr f_X11_128 rfl dX11_hunts_84 q1 q14 ?_
        refine m_iload_n dX11_hunts_87 rfl 3 rfl ?_
        refine m_aload_n dX11_hunts_88 rfl 2 rfl ?_
        refine m_iload dX11_hunts_89 0 rfl ?_
        refine m_aload_n dX11_hunts_91 rfl 2 rfl ?_
        refine m_iload_n dX11_hunts_92 rfl 3 rfl ?_
        refine m_iload dX11_hunts_93 0 rfl ?_
        refine m_invV (ci := 11) (As := [.int x1, .int xv6]) (d' := d) (mc' := 0) (ms' := 0) (rest := [.int xv6, .ref a0, .int x1, .ref r13]) i_11_walkOf v_11_walkOf t_11_walkOf l_X11_169 ⟨_, _, rfl⟩ dX11_hunts_95 rfl rfl q1 (Nat.le_of_ble_eq_true rfl) (Nat.le_refl _) ⟨Nat.le_refl _, Nat.le_refl _⟩ (m_Ci h (fun v16 M15 h => ?_))
        show m_W (d + 1) 0 0 yX11_hunts cX11_hunts 6 none (m_qv Th Q) 98 [(4, .int xv6), (3, .int xv5), (0, .ref a0), (1, .int x1), (2, .int x2)] [.int v16, .int xv6, .ref a0, .int x1, .ref r13] Th M15 0 0
        refine m_iconst (v := 1) dX11_hunts_98 (by decide) ?_
        refine m_isub dX11_hunts_99 ?_
        refine m_invV (ci := 11) (As := [.int xv6, .int ((v16 - 1))]) (d' := d) (mc' := 0) (ms' := 0) (rest := [.int x1, .ref r13]) i_11_yWalks v_11_yWalks t_11_yWalks l_X11_380 ⟨_, _, rfl⟩ dX11_hunts_100 rfl rfl q1 (Nat.le_of_ble_eq_true rfl) (Nat.le_refl _) ⟨Nat.le_refl _, Nat.le_refl _⟩ (m_Ci h (fun v18 M17 h => ?_))
        show m_W (d + 1) 0 0 yX11_hunts cX11_hunts 6 none (m_qv Th Q) 103 [(4, .int xv6), (3, .int xv5), (0, .ref a0), (1, .int x1), (2, .int x2)] [.int v18, .int x1, .ref r13] Th M17 0 0
        obtain ⟨q19, h⟩ := h
        refine m_iast dX11_hunts_103 q19 ?_
        refine m_goto (tgt := 119) dX11_hunts_104 (by decide) ?_
        exact m_sub [2, 3, 4] rfl h
    · rw [if_neg c1] at h
      refine m_iload_n dX11_hunts_28 rfl 1 rfl ?_
      refine m_aload_n dX11_hunts_29 rfl 2 rfl ?_
      refine m_geti f_X11_141 rfl dX11_hunts_30 q1 ?_
      refine m_invS (As := [.int xv5, .int (((M).1 a0 0))]) (d' := d) (mc' := 0) (ms' := 0) (rest := []) i_11_goesOn s_11_goesOn l_X11_292 dX11_hunts_33 rfl rfl (Nat.le_of_ble_eq_true rfl) (Nat.le_refl _) ⟨Nat.le_refl _, Nat.le_refl _⟩ (m_Ci h (fun v21 M20 h => ?_))
      show m_W (d + 1) 0 0 yX11_hunts cX11_hunts 6 none (m_qv Th Q) 36 [(4, .int xv6), (3, .int xv5), (0, .ref a0), (1, .int x1), (2, .int x2)] [.int v21] Th M20 0 0
      refine m_istore (lv' := [(5, .int v21), (4, .int xv6), (3, .int xv5), (0, .ref a0), (1, .int x1), (2, .int x2)]) dX11_hunts_36 (by decide) rfl ?_
      refine m_aload_n dX11_hunts_38 rfl 3 rfl ?_
      obtain ⟨r22, q23, h⟩ := h
      refine m_getr f_X11_128 rfl dX11_hunts_39 q1 q23 ?_
      refine m_iload_n dX11_hunts_42 rfl 4 rfl ?_
      refine m_iload dX11_hunts_43 0 rfl ?_
      refine m_bipush (v := 16) dX11_hunts_45 (by decide) ?_
      refine m_aload_n dX11_hunts_47 rfl 3 rfl ?_
      refine m_geti f_X11_141 rfl dX11_hunts_48 q1 ?_
      refine m_imul dX11_hunts_51 ?_
      have hJ : m_W (d + 1) 0 0 yX11_hunts cX11_hunts 6 none (m_qv Th Q) 62 [(5, .int v21), (4, .int xv6), (3, .int xv5), (0, .ref a0), (1, .int x1), (2, .int x2)] [.int ((if v21 = (16 * ((M20).1 a0 0)) then 80 else v21)), .int x1, .ref r22] Th M20 0 0 := by
        obtain ⟨q24, h⟩ := h
        refine m_iast dX11_hunts_62 q24 ?_
        refine m_goto (tgt := 119) dX11_hunts_63 (by decide) ?_
        exact m_sub [3, 4, 5] rfl h
      refine m_icmp_ne (tgt := 60) dX11_hunts_52 (by decide) (fun c1 => ?_) (fun c1 => ?_)
      · simp only [if_neg c1] at hJ
        refine m_iload dX11_hunts_60 0 rfl ?_
        exact hJ
      · simp only [if_pos c1] at hJ
        refine m_bipush (v := 80) dX11_hunts_55 (by decide) ?_
        refine m_goto (tgt := 62) dX11_hunts_57 (by decide) ?_
        exact hJ
  · rw [if_pos c1] at h
    exact m_return dX11_hunts_13 rfl ⟨rfl, rfl, h⟩
set_option maxHeartbeats 4000000 in
set_option maxRecDepth 100000 in
theorem e11_draws {d : Nat} {Th : mT} {Q : mM → Prop} {a0 : Nat} {x1 : Int32} {x2 : Int32} {x3 : Int32} {x4 : Int32} {M : mM} (h : Th.2.2 a0 = some (.inl 11) ∧ (∃ r2 : Nat, M.2.2 a0 8 = some r2 ∧ (m_ok Th r2 .int x1 ∧ (P11_thinks d Th a0 x1 (((M).1 r2 (Int32.toNatClampNeg x1))) x2 x3 M (fun M5 : mM => ∀ M7 : mM, M7 = m_ui M5 a0 4 ((((25173 * ((M5).1 a0 4)) + 13849) - ((25173 * ((M5).1 a0 4)) + 13849) / 65536 * 65536)) → ∀ xv8 : Int32, xv8 = (((M7).1 a0 4) - ((M7).1 a0 4) / 8 * 8) → if ((M7).1 a0 35) ≤ xv8 then (∃ r9 : Nat, M5.2.2 a0 66 = some r9 ∧ (if (((M7).1 a0 35) + ((M7).1 a0 36)) ≤ xv8 then (P11_more d Th x3 M7 (fun (v12 : Int32) (M11 : mM) => m_okw Th r9 .int x1 ∧ (Q (m_ui M11 r9 (Int32.toNatClampNeg x1) (((16 * x2) + v12)))))) else (m_okw Th r9 .int x1 ∧ (Q (m_ui M7 r9 (Int32.toNatClampNeg x1) ((((16 * x2) + 11) + ((M7).1 a0 2)))))))) else (P11_puts d Th a0 x1 x2 x4 M7 (fun M15 : mM => ∃ r17 : Nat, M15.2.2 a0 66 = some r17 ∧ (P11_walkOf d Th a0 x1 x2 M15 (fun (v20 : Int32) (M19 : mM) => m_okw Th r17 .int x1 ∧ (Q (m_ui M19 r17 (Int32.toNatClampNeg x1) ((((16 * x2) + 5) + v20))))))))))))) : P11_draws (d + 1) Th a0 x1 x2 x3 x4 M Q := by
  refine m_C.of (by decide +kernel) (Nat.le_of_ble_eq_true rfl) ?_
  show m_W (d + 1) 0 0 yX11_draws cX11_draws 6 none (m_qv Th Q) 0 [(0, .ref a0), (1, .int x1), (2, .int x2), (3, .int x3), (4, .int x4)] [] Th M 0 0
  refine m_aload_n dX11_draws_0 rfl 0 rfl ?_
  refine m_iload_n dX11_draws_1 rfl 1 rfl ?_
  refine m_aload_n dX11_draws_2 rfl 0 rfl ?_
  obtain ⟨q1, h⟩ := h
  obtain ⟨r2, q3, h⟩ := h
  refine m_getr f_X11_19 rfl dX11_draws_3 q1 q3 ?_
  refine m_iload_n dX11_draws_6 rfl 1 rfl ?_
  obtain ⟨q4, h⟩ := h
  refine m_iald dX11_draws_7 q4 ?_
  refine m_iload_n dX11_draws_8 rfl 2 rfl ?_
  refine m_iload_n dX11_draws_9 rfl 3 rfl ?_
  refine m_invV (ci := 11) (As := [.int x1, .int (((M).1 r2 (Int32.toNatClampNeg x1))), .int x2, .int x3]) (d' := d) (mc' := 0) (ms' := 0) (rest := []) i_11_thinks v_11_thinks t_11_thinks l_X11_288 ⟨_, _, rfl⟩ dX11_draws_10 rfl rfl q1 (Nat.le_of_ble_eq_true rfl) (Nat.le_refl _) ⟨Nat.le_refl _, Nat.le_refl _⟩ (m_Cv h (fun M5 h => ?_))
  show m_W (d + 1) 0 0 yX11_draws cX11_draws 6 none (m_qv Th Q) 13 [(0, .ref a0), (1, .int x1), (2, .int x2), (3, .int x3), (4, .int x4)] [] Th M5 0 0
  refine m_aload_n dX11_draws_13 rfl 0 rfl ?_
  refine m_sipush (v := 25173) dX11_draws_14 (by decide) ?_
  refine m_aload_n dX11_draws_17 rfl 0 rfl ?_
  refine m_geti f_X11_135 rfl dX11_draws_18 q1 ?_
  refine m_imul dX11_draws_21 ?_
  refine m_sipush (v := 13849) dX11_draws_22 (by decide) ?_
  refine m_iadd dX11_draws_25 ?_
  refine m_ldc_w k_X11_455 dX11_draws_26 ?_
  refine m_irem dX11_draws_29 (by decide) ?_
  refine m_puti f_X11_135 rfl (Or.inl rfl) dX11_draws_30 q1 ⟨rfl, rfl⟩ ?_
  refine m_aload_n dX11_draws_33 rfl 0 rfl ?_
  obtain ⟨M7, e_M7⟩ : ∃ M7 : mM, M7 = m_ui M5 a0 4 ((((25173 * ((M5).1 a0 4)) + 13849) - ((25173 * ((M5).1 a0 4)) + 13849) / 65536 * 65536)) := ⟨_, rfl⟩
  have h := h M7 e_M7
  rw [← e_M7]
  refine m_geti f_X11_135 rfl dX11_draws_34 q1 ?_
  refine m_bipush (v := 8) dX11_draws_37 (by decide) ?_
  refine m_irem dX11_draws_39 (by decide) ?_
  obtain ⟨xv8, e_xv8⟩ : ∃ xv8 : Int32, xv8 = (((M7).1 a0 4) - ((M7).1 a0 4) / 8 * 8) := ⟨_, rfl⟩
  have h := h xv8 e_xv8
  rw [← e_xv8]
  refine m_istore (lv' := [(5, .int xv8), (0, .ref a0), (1, .int x1), (2, .int x2), (3, .int x3), (4, .int x4)]) dX11_draws_40 (by decide) rfl ?_
  refine m_iload dX11_draws_42 0 rfl ?_
  refine m_aload_n dX11_draws_44 rfl 1 rfl ?_
  refine m_geti f_X11_282 rfl dX11_draws_45 q1 ?_
  refine m_icmp_ge (tgt := 81) dX11_draws_48 (by decide) (fun c1 => ?_) (fun c1 => ?_)
  · rw [if_pos c1] at h
    refine m_aload_n dX11_draws_81 rfl 1 rfl ?_
    obtain ⟨r9, q10, h⟩ := h
    refine m_getr f_X11_128 rfl dX11_draws_82 q1 (by rw [e_M7]; exact q10) ?_
    refine m_iload_n dX11_draws_85 rfl 2 rfl ?_
    refine m_iload dX11_draws_86 0 rfl ?_
    refine m_aload_n dX11_draws_88 rfl 1 rfl ?_
    refine m_geti f_X11_282 rfl dX11_draws_89 q1 ?_
    refine m_aload_n dX11_draws_92 rfl 1 rfl ?_
    refine m_geti f_X11_285 rfl dX11_draws_93 q1 ?_
    refine m_iadd dX11_draws_96 ?_
    refine m_icmp_ge (tgt := 115) dX11_draws_97 (by decide) (fun c1 => ?_) (fun c1 => ?_)
    · rw [if_pos c1] at h
      refine m_bipush (v := 16) dX11_draws_115 (by decide) ?_
      refine m_iload_n dX11_draws_117 rfl 3 rfl ?_
      refine m_imul dX11_draws_118 ?_
      refine m_iload_n dX11_draws_119 rfl 4 rfl ?_
      refine m_invS (As := [.int x3]) (d' := d) (mc' := 0) (ms' := 0) (rest := [.int ((16 * x2)), .int x1, .ref r9]) i_11_more s_11_more l_X11_297 dX11_draws_120 rfl rfl (Nat.le_of_ble_eq_true rfl) (Nat.le_refl _) ⟨Nat.le_refl _, Nat.le_refl _⟩ (m_Ci h (fun v12 M11 h => ?_))
      show m_W (d + 1) 0 0 yX11_draws cX11_draws 6 none (m_qv Th Q) 123 [(5, .int xv8), (0, .ref a0), (1, .int x1), (2, .int x2), (3, .int x3), (4, .int x4)] [.int v12, .int ((16 * x2)), .int x1, .ref r9] Th M11 0 0
      refine m_iadd dX11_draws_123 ?_
      obtain ⟨q13, h⟩ := h
      refine m_iast dX11_draws_124 q13 ?_
      exact m_return dX11_draws_125 rfl ⟨rfl, rfl, h⟩
    · rw [if_neg c1] at h
      refine m_bipush (v := 16) dX11_draws_100 (by decide) ?_
      refine m_iload_n dX11_draws_102 rfl 3 rfl ?_
      refine m_imul dX11_draws_103 ?_
      refine m_bipush (v := 11) dX11_draws_104 (by decide) ?_
      refine m_iadd dX11_draws_106 ?_
      refine m_aload_n dX11_draws_107 rfl 1 rfl ?_
      refine m_geti f_X11_131 rfl dX11_draws_108 q1 ?_
      refine m_iadd dX11_draws_111 ?_
      refine m_goto (tgt := 124) dX11_draws_112 (by decide) ?_
      obtain ⟨q14, h⟩ := h
      refine m_iast dX11_draws_124 q14 ?_
      exact m_return dX11_draws_125 rfl ⟨rfl, rfl, h⟩
  · rw [if_neg c1] at h
    refine m_aload_n dX11_draws_51 rfl 1 rfl ?_
    refine m_iload_n dX11_draws_52 rfl 2 rfl ?_
    refine m_iload_n dX11_draws_53 rfl 3 rfl ?_
    refine m_iload dX11_draws_54 5 rfl ?_
    refine m_invV (ci := 11) (As := [.int x1, .int x2, .int x4]) (d' := d) (mc' := 0) (ms' := 0) (rest := []) i_11_puts v_11_puts t_11_puts l_X11_436 ⟨_, _, rfl⟩ dX11_draws_56 rfl rfl q1 (Nat.le_of_ble_eq_true rfl) (Nat.le_refl _) ⟨Nat.le_refl _, Nat.le_refl _⟩ (m_Cv h (fun M15 h => ?_))
    show m_W (d + 1) 0 0 yX11_draws cX11_draws 6 none (m_qv Th Q) 59 [(5, .int xv8), (0, .ref a0), (1, .int x1), (2, .int x2), (3, .int x3), (4, .int x4)] [] Th M15 0 0
    refine m_aload_n dX11_draws_59 rfl 1 rfl ?_
    obtain ⟨r17, q18, h⟩ := h
    refine m_getr f_X11_128 rfl dX11_draws_60 q1 q18 ?_
    refine m_iload_n dX11_draws_63 rfl 2 rfl ?_
    refine m_bipush (v := 16) dX11_draws_64 (by decide) ?_
    refine m_iload_n dX11_draws_66 rfl 3 rfl ?_
    refine m_imul dX11_draws_67 ?_
    refine m_iconst (v := 5) dX11_draws_68 (by decide) ?_
    refine m_iadd dX11_draws_69 ?_
    refine m_aload_n dX11_draws_70 rfl 1 rfl ?_
    refine m_iload_n dX11_draws_71 rfl 2 rfl ?_
    refine m_iload_n dX11_draws_72 rfl 3 rfl ?_
    refine m_invV (ci := 11) (As := [.int x1, .int x2]) (d' := d) (mc' := 0) (ms' := 0) (rest := [.int (((16 * x2) + 5)), .int x1, .ref r17]) i_11_walkOf v_11_walkOf t_11_walkOf l_X11_169 ⟨_, _, rfl⟩ dX11_draws_73 rfl rfl q1 (Nat.le_of_ble_eq_true rfl) (Nat.le_refl _) ⟨Nat.le_refl _, Nat.le_refl _⟩ (m_Ci h (fun v20 M19 h => ?_))
    show m_W (d + 1) 0 0 yX11_draws cX11_draws 6 none (m_qv Th Q) 76 [(5, .int xv8), (0, .ref a0), (1, .int x1), (2, .int x2), (3, .int x3), (4, .int x4)] [.int v20, .int (((16 * x2) + 5)), .int x1, .ref r17] Th M19 0 0
    refine m_iadd dX11_draws_76 ?_
    obtain ⟨q21, h⟩ := h
    refine m_iast dX11_draws_77 q21 ?_
    refine m_goto (tgt := 125) dX11_draws_78 (by decide) ?_
    exact m_return dX11_draws_125 rfl ⟨rfl, rfl, h⟩
set_option maxHeartbeats 4000000 in
set_option maxRecDepth 100000 in
theorem h11_draw_23 {d : Nat} {Th : mT} {Q : Int32 → mM → Prop} {a0 : Nat} {x1 : Int32} {M : mM} (h : Th.2.2 a0 = some (.inl 11) ∧ (if ((M).1 a0 1) ≤ x1 then (H11_draw_53 (d + 1) Th Q a0 1 M) else (∃ r2 : Nat, M.2.2 a0 66 = some r2 ∧ (m_okw Th r2 .int x1 ∧ (∃ r5 : Nat, M.2.2 a0 65 = some r5 ∧ (m_okw Th r5 .int x1 ∧ (∀ M8 : mM, M8 = m_ui M r2 (Int32.toNatClampNeg x1) 0 → H11_draw_23 (d + 1) Th Q a0 (x1 + 1) (m_ui M8 r5 (Int32.toNatClampNeg x1) 0)))))))) : H11_draw_23 (d + 1) Th Q a0 x1 M := by
  show m_W (d + 1) 0 0 yX11_draw cX11_draw 3 (some .int) (m_qi Th Q) 23 [(0, .ref a0), (1, .int x1)] [] Th M 0 0
  refine m_iload_n dX11_draw_23 rfl 1 rfl ?_
  refine m_aload_n dX11_draw_24 rfl 0 rfl ?_
  obtain ⟨q1, h⟩ := h
  refine m_geti f_X11_138 rfl dX11_draw_25 q1 ?_
  refine m_icmp_ge (tgt := 51) dX11_draw_28 (by decide) (fun c1 => ?_) (fun c1 => ?_)
  · rw [if_pos c1] at h
    refine m_iconst (v := 1) dX11_draw_51 (by decide) ?_
    refine m_istore_n (lv' := [(1, .int 1), (0, .ref a0)]) dX11_draw_52 rfl (by decide) rfl ?_
    exact m_sub [1, 0] rfl h
  · rw [if_neg c1] at h
    refine m_aload_n dX11_draw_31 rfl 0 rfl ?_
    obtain ⟨r2, q3, h⟩ := h
    refine m_getr f_X11_128 rfl dX11_draw_32 q1 q3 ?_
    refine m_iload_n dX11_draw_35 rfl 1 rfl ?_
    refine m_iconst (v := 0) dX11_draw_36 (by decide) ?_
    obtain ⟨q4, h⟩ := h
    refine m_iast dX11_draw_37 q4 ?_
    refine m_aload_n dX11_draw_38 rfl 0 rfl ?_
    obtain ⟨r5, q6, h⟩ := h
    refine m_getr f_X11_125 rfl dX11_draw_39 q1 q6 ?_
    refine m_iload_n dX11_draw_42 rfl 1 rfl ?_
    refine m_iconst (v := 0) dX11_draw_43 (by decide) ?_
    obtain ⟨q7, h⟩ := h
    obtain ⟨M8, e_M8⟩ : ∃ M8 : mM, M8 = m_ui M r2 (Int32.toNatClampNeg x1) 0 := ⟨_, rfl⟩
    have h := h M8 e_M8
    rw [← e_M8]
    refine m_iast dX11_draw_44 q7 ?_
    refine m_iinc (v := x1 + 1) (lv' := [(1, .int (x1 + 1)), (0, .ref a0)]) dX11_draw_45 1 rfl rfl (by decide) rfl ?_
    refine m_goto (tgt := 23) dX11_draw_48 (by decide) ?_
    exact m_sub [1, 0] rfl h
set_option maxHeartbeats 4000000 in
set_option maxRecDepth 100000 in
theorem h11_draw_53 {d : Nat} {Th : mT} {Q : Int32 → mM → Prop} {a0 : Nat} {x1 : Int32} {M : mM} (h : if 10 < x1 then (Th.2.2 a0 = some (.inl 11) ∧ (H11_draw_96 (d + 1) Th Q a0 0 0 (m_ui M a0 61 1))) else (H11_draw_61 (d + 1) Th Q a0 x1 0 M)) : H11_draw_53 (d + 1) Th Q a0 x1 M := by
  show m_W (d + 1) 0 0 yX11_draw cX11_draw 3 (some .int) (m_qi Th Q) 53 [(0, .ref a0), (1, .int x1)] [] Th M 0 0
  refine m_iload_n dX11_draw_53 rfl 1 rfl ?_
  refine m_bipush (v := 10) dX11_draw_54 (by decide) ?_
  refine m_icmp_gt (tgt := 87) dX11_draw_56 (by decide) (fun c1 => ?_) (fun c1 => ?_)
  · rw [if_pos c1] at h
    refine m_aload_n dX11_draw_87 rfl 0 rfl ?_
    refine m_iconst (v := 1) dX11_draw_88 (by decide) ?_
    obtain ⟨q1, h⟩ := h
    refine m_puti f_X11_432 rfl (Or.inl rfl) dX11_draw_89 q1 ⟨by decide, by decide⟩ ?_
    refine m_iconst (v := 0) dX11_draw_92 (by decide) ?_
    refine m_istore_n (lv' := [(1, .int 0), (0, .ref a0)]) dX11_draw_93 rfl (by decide) rfl ?_
    refine m_iconst (v := 0) dX11_draw_94 (by decide) ?_
    refine m_istore_n (lv' := [(2, .int 0), (1, .int 0), (0, .ref a0)]) dX11_draw_95 rfl (by decide) rfl ?_
    exact m_sub [2, 1, 0] rfl h
  · rw [if_neg c1] at h
    refine m_iconst (v := 0) dX11_draw_59 (by decide) ?_
    refine m_istore_n (lv' := [(2, .int 0), (0, .ref a0), (1, .int x1)]) dX11_draw_60 rfl (by decide) rfl ?_
    exact m_sub [1, 2, 0] rfl h
set_option maxHeartbeats 4000000 in
set_option maxRecDepth 100000 in
theorem h11_draw_61 {d : Nat} {Th : mT} {Q : Int32 → mM → Prop} {a0 : Nat} {x1 : Int32} {x2 : Int32} {M : mM} (h : Th.2.2 a0 = some (.inl 11) ∧ (if ((M).1 a0 1) ≤ x2 then (H11_draw_53 (d + 1) Th Q a0 (x1 + 1) M) else (P11_hunts d Th a0 x2 x1 M (fun M2 : mM => H11_draw_61 (d + 1) Th Q a0 x1 (x2 + 1) M2)))) : H11_draw_61 (d + 1) Th Q a0 x1 x2 M := by
  show m_W (d + 1) 0 0 yX11_draw cX11_draw 3 (some .int) (m_qi Th Q) 61 [(0, .ref a0), (1, .int x1), (2, .int x2)] [] Th M 0 0
  refine m_iload_n dX11_draw_61 rfl 2 rfl ?_
  refine m_aload_n dX11_draw_62 rfl 0 rfl ?_
  obtain ⟨q1, h⟩ := h
  refine m_geti f_X11_138 rfl dX11_draw_63 q1 ?_
  refine m_icmp_ge (tgt := 81) dX11_draw_66 (by decide) (fun c1 => ?_) (fun c1 => ?_)
  · rw [if_pos c1] at h
    refine m_iinc (v := x1 + 1) (lv' := [(1, .int (x1 + 1)), (0, .ref a0), (2, .int x2)]) dX11_draw_81 1 rfl rfl (by decide) rfl ?_
    refine m_goto (tgt := 53) dX11_draw_84 (by decide) ?_
    exact m_sub [1, 0] rfl h
  · rw [if_neg c1] at h
    refine m_aload_n dX11_draw_69 rfl 0 rfl ?_
    refine m_iload_n dX11_draw_70 rfl 2 rfl ?_
    refine m_iload_n dX11_draw_71 rfl 1 rfl ?_
    refine m_invV (ci := 11) (As := [.int x2, .int x1]) (d' := d) (mc' := 0) (ms' := 0) (rest := []) i_11_hunts v_11_hunts t_11_hunts l_X11_456 ⟨_, _, rfl⟩ dX11_draw_72 rfl rfl q1 (Nat.le_of_ble_eq_true rfl) (Nat.le_refl _) ⟨Nat.le_refl _, Nat.le_refl _⟩ (m_Cv h (fun M2 h => ?_))
    show m_W (d + 1) 0 0 yX11_draw cX11_draw 3 (some .int) (m_qi Th Q) 75 [(0, .ref a0), (1, .int x1), (2, .int x2)] [] Th M2 0 0
    refine m_iinc (v := x2 + 1) (lv' := [(2, .int (x2 + 1)), (0, .ref a0), (1, .int x1)]) dX11_draw_75 2 rfl rfl (by decide) rfl ?_
    refine m_goto (tgt := 61) dX11_draw_78 (by decide) ?_
    exact m_sub [1, 2, 0] rfl h
set_option maxHeartbeats 4000000 in
set_option maxRecDepth 100000 in
theorem h11_draw_96 {d : Nat} {Th : mT} {Q : Int32 → mM → Prop} {a0 : Nat} {x1 : Int32} {x2 : Int32} {M : mM} (h : Th.2.2 a0 = some (.inl 11) ∧ (if ((M).1 a0 1) ≤ x2 then (Q x1 M) else (∃ r2 : Nat, M.2.2 a0 65 = some r2 ∧ (m_ok Th r2 .int x2 ∧ (∀ xv5 : Int32, xv5 = (x1 + (if ((M).1 r2 (Int32.toNatClampNeg x2)) ≤ 0 then 0 else 1)) → H11_draw_96 (d + 1) Th Q a0 xv5 (x2 + 1) M))))) : H11_draw_96 (d + 1) Th Q a0 x1 x2 M := by
  show m_W (d + 1) 0 0 yX11_draw cX11_draw 3 (some .int) (m_qi Th Q) 96 [(0, .ref a0), (1, .int x1), (2, .int x2)] [] Th M 0 0
  refine m_iload_n dX11_draw_96 rfl 2 rfl ?_
  refine m_aload_n dX11_draw_97 rfl 0 rfl ?_
  obtain ⟨q1, h⟩ := h
  refine m_geti f_X11_138 rfl dX11_draw_98 q1 ?_
  refine m_icmp_ge (tgt := 127) dX11_draw_101 (by decide) (fun c1 => ?_) (fun c1 => ?_)
  · rw [if_pos c1] at h
    refine m_iload_n dX11_draw_127 rfl 1 rfl ?_
    exact m_ireturn dX11_draw_128 rfl rfl ⟨rfl, _, rfl, h⟩
  · rw [if_neg c1] at h
    refine m_iload_n dX11_draw_104 rfl 1 rfl ?_
    refine m_aload_n dX11_draw_105 rfl 0 rfl ?_
    obtain ⟨r2, q3, h⟩ := h
    refine m_getr f_X11_125 rfl dX11_draw_106 q1 q3 ?_
    refine m_iload_n dX11_draw_109 rfl 2 rfl ?_
    obtain ⟨q4, h⟩ := h
    refine m_iald dX11_draw_110 q4 ?_
    have hJ : m_W (d + 1) 0 0 yX11_draw cX11_draw 3 (some .int) (m_qi Th Q) 119 [(0, .ref a0), (1, .int x1), (2, .int x2)] [.int ((if ((M).1 r2 (Int32.toNatClampNeg x2)) ≤ 0 then 0 else 1)), .int x1] Th M 0 0 := by
      refine m_iadd dX11_draw_119 ?_
      obtain ⟨xv5, e_xv5⟩ : ∃ xv5 : Int32, xv5 = (x1 + (if ((M).1 r2 (Int32.toNatClampNeg x2)) ≤ 0 then 0 else 1)) := ⟨_, rfl⟩
      have h := h xv5 e_xv5
      rw [← e_xv5]
      refine m_istore_n (lv' := [(1, .int xv5), (0, .ref a0), (2, .int x2)]) dX11_draw_120 rfl (by decide) rfl ?_
      refine m_iinc (v := x2 + 1) (lv' := [(2, .int (x2 + 1)), (1, .int xv5), (0, .ref a0)]) dX11_draw_121 2 rfl rfl (by decide) rfl ?_
      refine m_goto (tgt := 96) dX11_draw_124 (by decide) ?_
      exact m_sub [2, 1, 0] rfl h
    refine m_if_le (tgt := 118) dX11_draw_111 (by decide) (fun c1 => ?_) (fun c1 => ?_)
    · simp only [if_pos c1] at hJ
      refine m_iconst (v := 0) dX11_draw_118 (by decide) ?_
      exact hJ
    · simp only [if_neg c1] at hJ
      refine m_iconst (v := 1) dX11_draw_114 (by decide) ?_
      refine m_goto (tgt := 119) dX11_draw_115 (by decide) ?_
      exact hJ
set_option maxHeartbeats 4000000 in
set_option maxRecDepth 100000 in
theorem e11_draw {d : Nat} {Th : mT} {Q : Int32 → mM → Prop} {a0 : Nat} {M : mM} (h : Th.2.2 a0 = some (.inl 11) ∧ (if ((M).1 a0 1) = 0 then (Q (-1) M) else (if ((M).1 a0 0) = 0 then (Q (-1) M) else (P11_clears d Th a0 M (fun (v3 : Int32) (M2 : mM) => H11_draw_23 (d + 1) Th Q a0 0 M2))))) : P11_draw (d + 1) Th a0 M Q := by
  refine m_C.of (by decide +kernel) (Nat.le_of_ble_eq_true rfl) ?_
  show m_W (d + 1) 0 0 yX11_draw cX11_draw 3 (some .int) (m_qi Th Q) 0 [(0, .ref a0)] [] Th M 0 0
  refine m_aload_n dX11_draw_0 rfl 0 rfl ?_
  obtain ⟨q1, h⟩ := h
  refine m_geti f_X11_138 rfl dX11_draw_1 q1 ?_
  refine m_if_eq (tgt := 14) dX11_draw_4 (by decide) (fun c1 => ?_) (fun c1 => ?_)
  · rw [if_pos c1] at h
    refine m_iconst (v := (-1)) dX11_draw_14 (by decide) ?_
    exact m_ireturn dX11_draw_15 rfl rfl ⟨rfl, _, rfl, h⟩
  · rw [if_neg c1] at h
    refine m_aload_n dX11_draw_7 rfl 0 rfl ?_
    refine m_geti f_X11_141 rfl dX11_draw_8 q1 ?_
    refine m_if_ne (tgt := 16) dX11_draw_11 (by decide) (fun c1 => ?_) (fun c1 => ?_)
    · rw [if_neg c1] at h
      refine m_aload_n dX11_draw_16 rfl 0 rfl ?_
      refine m_invV (ci := 11) (As := []) (d' := d) (mc' := 0) (ms' := 0) (rest := []) i_11_clears v_11_clears t_11_clears l_X11_155 ⟨_, _, rfl⟩ dX11_draw_17 rfl rfl q1 (Nat.le_of_ble_eq_true rfl) (Nat.le_refl _) ⟨Nat.le_refl _, Nat.le_refl _⟩ (m_Ci h (fun v3 M2 h => ?_))
      show m_W (d + 1) 0 0 yX11_draw cX11_draw 3 (some .int) (m_qi Th Q) 20 [(0, .ref a0)] [.int v3] Th M2 0 0
      refine m_pop dX11_draw_20 rfl ?_
      refine m_iconst (v := 0) dX11_draw_21 (by decide) ?_
      refine m_istore_n (lv' := [(1, .int 0), (0, .ref a0)]) dX11_draw_22 rfl (by decide) rfl ?_
      exact m_sub [1, 0] rfl h
    · rw [if_pos c1] at h
      refine m_iconst (v := (-1)) dX11_draw_14 (by decide) ?_
      exact m_ireturn dX11_draw_15 rfl rfl ⟨rfl, _, rfl, h⟩
set_option maxHeartbeats 4000000 in
set_option maxRecDepth 100000 in
theorem e11_had {d : Nat} {Th : mT} {Q : Int32 → mM → Prop} {a0 : Nat} {x1 : Int32} {M : mM} (h : Th.2.2 a0 = some (.inl 11) ∧ (P11_isBand d Th a0 x1 M (fun (v2 : Int32) (M1 : mM) => if v2 = 0 then (Q (-1) M1) else (if ((M1).1 a0 61) = 0 then (Q (-1) M1) else (∃ r4 : Nat, M1.2.2 a0 65 = some r4 ∧ (m_ok Th r4 .int x1 ∧ (Q (((M1).1 r4 (Int32.toNatClampNeg x1))) M1))))))) : P11_had (d + 1) Th a0 x1 M Q := by
  refine m_C.of (by decide +kernel) (Nat.le_of_ble_eq_true rfl) ?_
  show m_W (d + 1) 0 0 yX11_had cX11_had 2 (some .int) (m_qi Th Q) 0 [(0, .ref a0), (1, .int x1)] [] Th M 0 0
  refine m_aload_n dX11_had_0 rfl 0 rfl ?_
  refine m_iload_n dX11_had_1 rfl 1 rfl ?_
  obtain ⟨q3, h⟩ := h
  refine m_invV (ci := 11) (As := [.int x1]) (d' := d) (mc' := 0) (ms' := 0) (rest := []) i_11_isBand v_11_isBand t_11_isBand l_X11_144 ⟨_, _, rfl⟩ dX11_had_2 rfl rfl q3 (Nat.le_of_ble_eq_true rfl) (Nat.le_refl _) ⟨Nat.le_refl _, Nat.le_refl _⟩ (m_Ci h (fun v2 M1 h => ?_))
  show m_W (d + 1) 0 0 yX11_had cX11_had 2 (some .int) (m_qi Th Q) 5 [(0, .ref a0), (1, .int x1)] [.int v2] Th M1 0 0
  refine m_if_eq (tgt := 24) dX11_had_5 (by decide) (fun c1 => ?_) (fun c1 => ?_)
  · rw [if_pos c1] at h
    refine m_iconst (v := (-1)) dX11_had_24 (by decide) ?_
    exact m_ireturn dX11_had_25 rfl rfl ⟨rfl, _, rfl, h⟩
  · rw [if_neg c1] at h
    refine m_aload_n dX11_had_8 rfl 0 rfl ?_
    refine m_geti f_X11_432 rfl dX11_had_9 q3 ?_
    refine m_if_eq (tgt := 24) dX11_had_12 (by decide) (fun c1 => ?_) (fun c1 => ?_)
    · rw [if_pos c1] at h
      refine m_iconst (v := (-1)) dX11_had_24 (by decide) ?_
      exact m_ireturn dX11_had_25 rfl rfl ⟨rfl, _, rfl, h⟩
    · rw [if_neg c1] at h
      refine m_aload_n dX11_had_15 rfl 0 rfl ?_
      obtain ⟨r4, q5, h⟩ := h
      refine m_getr f_X11_125 rfl dX11_had_16 q3 q5 ?_
      refine m_iload_n dX11_had_19 rfl 1 rfl ?_
      obtain ⟨q6, h⟩ := h
      refine m_iald dX11_had_20 q6 ?_
      refine m_goto (tgt := 25) dX11_had_21 (by decide) ?_
      exact m_ireturn dX11_had_25 rfl rfl ⟨rfl, _, rfl, h⟩
set_option maxHeartbeats 4000000 in
set_option maxRecDepth 100000 in
theorem h11_tapeNumber_6 {d : Nat} {Th : mT} {Q : Int32 → mM → Prop} {a0 : Nat} {x1 : Int32} {x2 : Int32} {x3 : Int32} {M : mM} (h : if ((4 * x1) + 4) ≤ x3 then (Q x2 M) else (Th.2.2 a0 = some (.inl 11) ∧ (∃ r2 : Nat, M.2.2 a0 11 = some r2 ∧ (m_ok Th r2 .byte x3 ∧ (∀ xv5 : Int32, xv5 = ((x2 <<< (8 &&& 31)) ||| (((M).1 r2 (Int32.toNatClampNeg x3)) &&& 255)) → H11_tapeNumber_6 (d + 1) Th Q a0 x1 xv5 (x3 + 1) M))))) : H11_tapeNumber_6 (d + 1) Th Q a0 x1 x2 x3 M := by
  show m_W (d + 1) 0 0 yX11_tapeNumber cX11_tapeNumber 4 (some .int) (m_qi Th Q) 6 [(0, .ref a0), (1, .int x1), (2, .int x2), (3, .int x3)] [] Th M 0 0
  refine m_iload_n dX11_tapeNumber_6 rfl 3 rfl ?_
  refine m_iconst (v := 4) dX11_tapeNumber_7 (by decide) ?_
  refine m_iload_n dX11_tapeNumber_8 rfl 1 rfl ?_
  refine m_imul dX11_tapeNumber_9 ?_
  refine m_iconst (v := 4) dX11_tapeNumber_10 (by decide) ?_
  refine m_iadd dX11_tapeNumber_11 ?_
  refine m_icmp_ge (tgt := 37) dX11_tapeNumber_12 (by decide) (fun c1 => ?_) (fun c1 => ?_)
  · rw [if_pos c1] at h
    refine m_iload_n dX11_tapeNumber_37 rfl 2 rfl ?_
    exact m_ireturn dX11_tapeNumber_38 rfl rfl ⟨rfl, _, rfl, h⟩
  · rw [if_neg c1] at h
    refine m_iload_n dX11_tapeNumber_15 rfl 2 rfl ?_
    refine m_bipush (v := 8) dX11_tapeNumber_16 (by decide) ?_
    refine m_ishl dX11_tapeNumber_18 ?_
    refine m_aload_n dX11_tapeNumber_19 rfl 0 rfl ?_
    obtain ⟨q1, h⟩ := h
    obtain ⟨r2, q3, h⟩ := h
    refine m_getr f_X11_28 rfl dX11_tapeNumber_20 q1 q3 ?_
    refine m_iload_n dX11_tapeNumber_23 rfl 3 rfl ?_
    obtain ⟨q4, h⟩ := h
    refine m_bald dX11_tapeNumber_24 q4 ?_
    refine m_sipush (v := 255) dX11_tapeNumber_25 (by decide) ?_
    refine m_iand dX11_tapeNumber_28 ?_
    refine m_ior dX11_tapeNumber_29 ?_
    obtain ⟨xv5, e_xv5⟩ : ∃ xv5 : Int32, xv5 = ((x2 <<< (8 &&& 31)) ||| (((M).1 r2 (Int32.toNatClampNeg x3)) &&& 255)) := ⟨_, rfl⟩
    have h := h xv5 e_xv5
    rw [← e_xv5]
    refine m_istore_n (lv' := [(2, .int xv5), (0, .ref a0), (1, .int x1), (3, .int x3)]) dX11_tapeNumber_30 rfl (by decide) rfl ?_
    refine m_iinc (v := x3 + 1) (lv' := [(3, .int (x3 + 1)), (2, .int xv5), (0, .ref a0), (1, .int x1)]) dX11_tapeNumber_31 3 rfl rfl (by decide) rfl ?_
    refine m_goto (tgt := 6) dX11_tapeNumber_34 (by decide) ?_
    exact m_sub [2, 3, 1, 0] rfl h
set_option maxHeartbeats 4000000 in
set_option maxRecDepth 100000 in
theorem e11_tapeNumber {d : Nat} {Th : mT} {Q : Int32 → mM → Prop} {a0 : Nat} {x1 : Int32} {M : mM} (h : ∀ xv1 : Int32, xv1 = (4 * x1) → H11_tapeNumber_6 (d + 1) Th Q a0 x1 0 xv1 M) : P11_tapeNumber (d + 1) Th a0 x1 M Q := by
  refine m_C.of (by decide +kernel) (Nat.le_of_ble_eq_true rfl) ?_
  show m_W (d + 1) 0 0 yX11_tapeNumber cX11_tapeNumber 4 (some .int) (m_qi Th Q) 0 [(0, .ref a0), (1, .int x1)] [] Th M 0 0
  refine m_iconst (v := 0) dX11_tapeNumber_0 (by decide) ?_
  refine m_istore_n (lv' := [(2, .int 0), (0, .ref a0), (1, .int x1)]) dX11_tapeNumber_1 rfl (by decide) rfl ?_
  refine m_iconst (v := 4) dX11_tapeNumber_2 (by decide) ?_
  refine m_iload_n dX11_tapeNumber_3 rfl 2 rfl ?_
  refine m_imul dX11_tapeNumber_4 ?_
  obtain ⟨xv1, e_xv1⟩ : ∃ xv1 : Int32, xv1 = (4 * x1) := ⟨_, rfl⟩
  have h := h xv1 e_xv1
  rw [← e_xv1]
  refine m_istore_n (lv' := [(3, .int xv1), (2, .int 0), (0, .ref a0), (1, .int x1)]) dX11_tapeNumber_5 rfl (by decide) rfl ?_
  exact m_sub [2, 3, 1, 0] rfl h
set_option maxHeartbeats 4000000 in
set_option maxRecDepth 100000 in
theorem h11_check_25 {d : Nat} {Th : mT} {Q : Int32 → mM → Prop} {a0 : Nat} {x1 : Int32} {x2 : Int32} {M : mM} (h : Th.2.2 a0 = some (.inl 11) ∧ (if ((M).1 a0 60) ≤ x2 then (if x1 ≤ ((M).1 a0 60) then (Q (-1) M) else (Q ((3 * ((M).1 a0 60))) M)) else (if x2 = x1 then (Q ((3 * x2)) M) else (P11_tapeNumber d Th a0 ((3 * x2)) M (fun (v3 : Int32) (M2 : mM) => ∃ r4 : Nat, M2.2.2 a0 62 = some r4 ∧ (m_ok Th r4 .int x2 ∧ (if v3 = ((M2).1 r4 (Int32.toNatClampNeg x2)) then (P11_tapeNumber d Th a0 (((3 * x2) + 1)) M2 (fun (v8 : Int32) (M7 : mM) => ∃ r9 : Nat, M7.2.2 a0 63 = some r9 ∧ (m_ok Th r9 .int x2 ∧ (if v8 = ((M7).1 r9 (Int32.toNatClampNeg x2)) then (P11_tapeNumber d Th a0 (((3 * x2) + 2)) M7 (fun (v13 : Int32) (M12 : mM) => ∃ r14 : Nat, M12.2.2 a0 64 = some r14 ∧ (m_ok Th r14 .int x2 ∧ (if v13 = ((M12).1 r14 (Int32.toNatClampNeg x2)) then (H11_check_25 (d + 1) Th Q a0 x1 (x2 + 1) M12) else (Q (((3 * x2) + 2)) M12))))) else (Q (((3 * x2) + 1)) M7))))) else (Q ((3 * x2)) M2)))))))) : H11_check_25 (d + 1) Th Q a0 x1 x2 M := by
  show m_W (d + 1) 0 0 yX11_check cX11_check 3 (some .int) (m_qi Th Q) 25 [(0, .ref a0), (1, .int x1), (2, .int x2)] [] Th M 0 0
  refine m_iload_n dX11_check_25 rfl 2 rfl ?_
  refine m_aload_n dX11_check_26 rfl 0 rfl ?_
  obtain ⟨q1, h⟩ := h
  refine m_geti f_X11_429 rfl dX11_check_27 q1 ?_
  refine m_icmp_ge (tgt := 112) dX11_check_30 (by decide) (fun c1 => ?_) (fun c1 => ?_)
  · rw [if_pos c1] at h
    refine m_aload_n dX11_check_112 rfl 0 rfl ?_
    refine m_geti f_X11_429 rfl dX11_check_113 q1 ?_
    refine m_iload_n dX11_check_116 rfl 1 rfl ?_
    refine m_icmp_ge (tgt := 129) dX11_check_117 (by decide) (fun c1 => ?_) (fun c1 => ?_)
    · rw [if_pos c1] at h
      refine m_iconst (v := (-1)) dX11_check_129 (by decide) ?_
      exact m_ireturn dX11_check_130 rfl rfl ⟨rfl, _, rfl, h⟩
    · rw [if_neg c1] at h
      refine m_iconst (v := 3) dX11_check_120 (by decide) ?_
      refine m_aload_n dX11_check_121 rfl 0 rfl ?_
      refine m_geti f_X11_429 rfl dX11_check_122 q1 ?_
      refine m_imul dX11_check_125 ?_
      refine m_goto (tgt := 130) dX11_check_126 (by decide) ?_
      exact m_ireturn dX11_check_130 rfl rfl ⟨rfl, _, rfl, h⟩
  · rw [if_neg c1] at h
    refine m_iload_n dX11_check_33 rfl 2 rfl ?_
    refine m_iload_n dX11_check_34 rfl 1 rfl ?_
    refine m_icmp_eq (tgt := 54) dX11_check_35 (by decide) (fun c1 => ?_) (fun c1 => ?_)
    · rw [if_pos c1] at h
      refine m_iconst (v := 3) dX11_check_54 (by decide) ?_
      refine m_iload_n dX11_check_55 rfl 2 rfl ?_
      refine m_imul dX11_check_56 ?_
      exact m_ireturn dX11_check_57 rfl rfl ⟨rfl, _, rfl, h⟩
    · rw [if_neg c1] at h
      refine m_aload_n dX11_check_38 rfl 0 rfl ?_
      refine m_iconst (v := 3) dX11_check_39 (by decide) ?_
      refine m_iload_n dX11_check_40 rfl 2 rfl ?_
      refine m_imul dX11_check_41 ?_
      refine m_invV (ci := 11) (As := [.int ((3 * x2))]) (d' := d) (mc' := 0) (ms' := 0) (rest := []) i_11_tapeNumber v_11_tapeNumber t_11_tapeNumber l_X11_459 ⟨_, _, rfl⟩ dX11_check_42 rfl rfl q1 (Nat.le_of_ble_eq_true rfl) (Nat.le_refl _) ⟨Nat.le_refl _, Nat.le_refl _⟩ (m_Ci h (fun v3 M2 h => ?_))
      show m_W (d + 1) 0 0 yX11_check cX11_check 3 (some .int) (m_qi Th Q) 45 [(0, .ref a0), (1, .int x1), (2, .int x2)] [.int v3] Th M2 0 0
      refine m_aload_n dX11_check_45 rfl 0 rfl ?_
      obtain ⟨r4, q5, h⟩ := h
      refine m_getr f_X11_116 rfl dX11_check_46 q1 q5 ?_
      refine m_iload_n dX11_check_49 rfl 2 rfl ?_
      obtain ⟨q6, h⟩ := h
      refine m_iald dX11_check_50 q6 ?_
      refine m_icmp_eq (tgt := 58) dX11_check_51 (by decide) (fun c1 => ?_) (fun c1 => ?_)
      · rw [if_pos c1] at h
        refine m_aload_n dX11_check_58 rfl 0 rfl ?_
        refine m_iconst (v := 3) dX11_check_59 (by decide) ?_
        refine m_iload_n dX11_check_60 rfl 2 rfl ?_
        refine m_imul dX11_check_61 ?_
        refine m_iconst (v := 1) dX11_check_62 (by decide) ?_
        refine m_iadd dX11_check_63 ?_
        refine m_invV (ci := 11) (As := [.int (((3 * x2) + 1))]) (d' := d) (mc' := 0) (ms' := 0) (rest := []) i_11_tapeNumber v_11_tapeNumber t_11_tapeNumber l_X11_459 ⟨_, _, rfl⟩ dX11_check_64 rfl rfl q1 (Nat.le_of_ble_eq_true rfl) (Nat.le_refl _) ⟨Nat.le_refl _, Nat.le_refl _⟩ (m_Ci h (fun v8 M7 h => ?_))
        show m_W (d + 1) 0 0 yX11_check cX11_check 3 (some .int) (m_qi Th Q) 67 [(0, .ref a0), (1, .int x1), (2, .int x2)] [.int v8] Th M7 0 0
        refine m_aload_n dX11_check_67 rfl 0 rfl ?_
        obtain ⟨r9, q10, h⟩ := h
        refine m_getr f_X11_119 rfl dX11_check_68 q1 q10 ?_
        refine m_iload_n dX11_check_71 rfl 2 rfl ?_
        obtain ⟨q11, h⟩ := h
        refine m_iald dX11_check_72 q11 ?_
        refine m_icmp_eq (tgt := 82) dX11_check_73 (by decide) (fun c1 => ?_) (fun c1 => ?_)
        · rw [if_pos c1] at h
          refine m_aload_n dX11_check_82 rfl 0 rfl ?_
          refine m_iconst (v := 3) dX11_check_83 (by decide) ?_
          refine m_iload_n dX11_check_84 rfl 2 rfl ?_
          refine m_imul dX11_check_85 ?_
          refine m_iconst (v := 2) dX11_check_86 (by decide) ?_
          refine m_iadd dX11_check_87 ?_
          refine m_invV (ci := 11) (As := [.int (((3 * x2) + 2))]) (d' := d) (mc' := 0) (ms' := 0) (rest := []) i_11_tapeNumber v_11_tapeNumber t_11_tapeNumber l_X11_459 ⟨_, _, rfl⟩ dX11_check_88 rfl rfl q1 (Nat.le_of_ble_eq_true rfl) (Nat.le_refl _) ⟨Nat.le_refl _, Nat.le_refl _⟩ (m_Ci h (fun v13 M12 h => ?_))
          show m_W (d + 1) 0 0 yX11_check cX11_check 3 (some .int) (m_qi Th Q) 91 [(0, .ref a0), (1, .int x1), (2, .int x2)] [.int v13] Th M12 0 0
          refine m_aload_n dX11_check_91 rfl 0 rfl ?_
          obtain ⟨r14, q15, h⟩ := h
          refine m_getr f_X11_122 rfl dX11_check_92 q1 q15 ?_
          refine m_iload_n dX11_check_95 rfl 2 rfl ?_
          obtain ⟨q16, h⟩ := h
          refine m_iald dX11_check_96 q16 ?_
          refine m_icmp_eq (tgt := 106) dX11_check_97 (by decide) (fun c1 => ?_) (fun c1 => ?_)
          · rw [if_pos c1] at h
            refine m_iinc (v := x2 + 1) (lv' := [(2, .int (x2 + 1)), (0, .ref a0), (1, .int x1)]) dX11_check_106 2 rfl rfl (by decide) rfl ?_
            refine m_goto (tgt := 25) dX11_check_109 (by decide) ?_
            exact m_sub [1, 2, 0] rfl h
          · rw [if_neg c1] at h
            refine m_iconst (v := 3) dX11_check_100 (by decide) ?_
            refine m_iload_n dX11_check_101 rfl 2 rfl ?_
            refine m_imul dX11_check_102 ?_
            refine m_iconst (v := 2) dX11_check_103 (by decide) ?_
            refine m_iadd dX11_check_104 ?_
            exact m_ireturn dX11_check_105 rfl rfl ⟨rfl, _, rfl, h⟩
        · rw [if_neg c1] at h
          refine m_iconst (v := 3) dX11_check_76 (by decide) ?_
          refine m_iload_n dX11_check_77 rfl 2 rfl ?_
          refine m_imul dX11_check_78 ?_
          refine m_iconst (v := 1) dX11_check_79 (by decide) ?_
          refine m_iadd dX11_check_80 ?_
          exact m_ireturn dX11_check_81 rfl rfl ⟨rfl, _, rfl, h⟩
      · rw [if_neg c1] at h
        refine m_iconst (v := 3) dX11_check_54 (by decide) ?_
        refine m_iload_n dX11_check_55 rfl 2 rfl ?_
        refine m_imul dX11_check_56 ?_
        exact m_ireturn dX11_check_57 rfl rfl ⟨rfl, _, rfl, h⟩
set_option maxHeartbeats 4000000 in
set_option maxRecDepth 100000 in
theorem e11_check {d : Nat} {Th : mT} {Q : Int32 → mM → Prop} {a0 : Nat} {x1 : Int32} {M : mM} (h : if x1 < 0 then (Q (-2) M) else (Th.2.2 a0 = some (.inl 11) ∧ (if x1 ≤ (((M).1 a0 12) / 12) then (H11_check_25 (d + 1) Th Q a0 x1 0 (m_ui M a0 12 0)) else (Q (-2) M)))) : P11_check (d + 1) Th a0 x1 M Q := by
  refine m_C.of (by decide +kernel) (Nat.le_of_ble_eq_true rfl) ?_
  show m_W (d + 1) 0 0 yX11_check cX11_check 3 (some .int) (m_qi Th Q) 0 [(0, .ref a0), (1, .int x1)] [] Th M 0 0
  refine m_iload_n dX11_check_0 rfl 1 rfl ?_
  refine m_if_lt (tgt := 15) dX11_check_1 (by decide) (fun c1 => ?_) (fun c1 => ?_)
  · rw [if_pos c1] at h
    refine m_bipush (v := (-2)) dX11_check_15 (by decide) ?_
    exact m_ireturn dX11_check_17 rfl rfl ⟨rfl, _, rfl, h⟩
  · rw [if_neg c1] at h
    refine m_iload_n dX11_check_4 rfl 1 rfl ?_
    refine m_aload_n dX11_check_5 rfl 0 rfl ?_
    obtain ⟨q1, h⟩ := h
    refine m_geti f_X11_172 rfl dX11_check_6 q1 ?_
    refine m_bipush (v := 12) dX11_check_9 (by decide) ?_
    refine m_idiv dX11_check_11 (by decide) ?_
    refine m_icmp_le (tgt := 18) dX11_check_12 (by decide) (fun c1 => ?_) (fun c1 => ?_)
    · rw [if_pos c1] at h
      refine m_aload_n dX11_check_18 rfl 0 rfl ?_
      refine m_iconst (v := 0) dX11_check_19 (by decide) ?_
      refine m_puti f_X11_172 rfl (Or.inl rfl) dX11_check_20 q1 ⟨rfl, rfl⟩ ?_
      refine m_iconst (v := 0) dX11_check_23 (by decide) ?_
      refine m_istore_n (lv' := [(2, .int 0), (0, .ref a0), (1, .int x1)]) dX11_check_24 rfl (by decide) rfl ?_
      exact m_sub [1, 2, 0] rfl h
    · rw [if_neg c1] at h
      refine m_bipush (v := (-2)) dX11_check_15 (by decide) ?_
      exact m_ireturn dX11_check_17 rfl rfl ⟨rfl, _, rfl, h⟩
set_option maxHeartbeats 4000000 in
set_option maxRecDepth 100000 in
theorem e11_count {d : Nat} {Th : mT} {Q : Int32 → mM → Prop} {a0 : Nat} {x1 : Int32} {M : mM} (h : if x1 = 0 then (Th.2.2 a0 = some (.inl 11) ∧ (Q (((M).1 a0 0)) M)) else (if x1 = 1 then (Th.2.2 a0 = some (.inl 11) ∧ (Q (((M).1 a0 1)) M)) else (if x1 = 2 then (Th.2.2 a0 = some (.inl 11) ∧ (Q (((M).1 a0 21)) M)) else (if x1 = 3 then (Th.2.2 a0 = some (.inl 11) ∧ (Q (((M).1 a0 12)) M)) else (if x1 = 4 then (Th.2.2 a0 = some (.inl 11) ∧ (Q (((M).1 a0 56)) M)) else (if x1 = 5 then (Th.2.2 a0 = some (.inl 11) ∧ (Q (((M).1 a0 60)) M)) else (if x1 = 6 then (Th.2.2 a0 = some (.inl 11) ∧ (Q (((M).1 a0 4)) M)) else (if x1 = 7 then (Th.2.2 a0 = some (.inl 11) ∧ (Q (((M).1 a0 2)) M)) else (if x1 = 8 then (Th.2.2 a0 = some (.inl 11) ∧ (Q (((M).1 a0 3)) M)) else (Q (-1) M)))))))))) : P11_count (d + 1) Th a0 x1 M Q := by
  refine m_C.of (by decide +kernel) (Nat.le_of_ble_eq_true rfl) ?_
  show m_W (d + 1) 0 0 yX11_count cX11_count 2 (some .int) (m_qi Th Q) 0 [(0, .ref a0), (1, .int x1)] [] Th M 0 0
  refine m_iload_n dX11_count_0 rfl 1 rfl ?_
  by_cases c0 : x1 = 0
  · rw [if_pos c0] at h
    refine m_tableIn (off := 51) (tgt := 52) dX11_count_1 (by rw [c0]; decide) (by rw [c0]; decide) (by rw [c0]; decide) (by decide) ?_
    refine m_aload_n dX11_count_52 rfl 0 rfl ?_
    obtain ⟨q1, h⟩ := h
    refine m_geti f_X11_141 rfl dX11_count_53 q1 ?_
    exact m_ireturn dX11_count_56 rfl rfl ⟨rfl, _, rfl, h⟩
  rw [if_neg c0] at h
  by_cases c1 : x1 = 1
  · rw [if_pos c1] at h
    refine m_tableIn (off := 56) (tgt := 57) dX11_count_1 (by rw [c1]; decide) (by rw [c1]; decide) (by rw [c1]; decide) (by decide) ?_
    refine m_aload_n dX11_count_57 rfl 0 rfl ?_
    obtain ⟨q2, h⟩ := h
    refine m_geti f_X11_138 rfl dX11_count_58 q2 ?_
    exact m_ireturn dX11_count_61 rfl rfl ⟨rfl, _, rfl, h⟩
  rw [if_neg c1] at h
  by_cases c2 : x1 = 2
  · rw [if_pos c2] at h
    refine m_tableIn (off := 61) (tgt := 62) dX11_count_1 (by rw [c2]; decide) (by rw [c2]; decide) (by rw [c2]; decide) (by decide) ?_
    refine m_aload_n dX11_count_62 rfl 0 rfl ?_
    obtain ⟨q3, h⟩ := h
    refine m_geti f_X11_269 rfl dX11_count_63 q3 ?_
    exact m_ireturn dX11_count_66 rfl rfl ⟨rfl, _, rfl, h⟩
  rw [if_neg c2] at h
  by_cases c3 : x1 = 3
  · rw [if_pos c3] at h
    refine m_tableIn (off := 66) (tgt := 67) dX11_count_1 (by rw [c3]; decide) (by rw [c3]; decide) (by rw [c3]; decide) (by decide) ?_
    refine m_aload_n dX11_count_67 rfl 0 rfl ?_
    obtain ⟨q4, h⟩ := h
    refine m_geti f_X11_172 rfl dX11_count_68 q4 ?_
    exact m_ireturn dX11_count_71 rfl rfl ⟨rfl, _, rfl, h⟩
  rw [if_neg c3] at h
  by_cases c4 : x1 = 4
  · rw [if_pos c4] at h
    refine m_tableIn (off := 71) (tgt := 72) dX11_count_1 (by rw [c4]; decide) (by rw [c4]; decide) (by rw [c4]; decide) (by decide) ?_
    refine m_aload_n dX11_count_72 rfl 0 rfl ?_
    obtain ⟨q5, h⟩ := h
    refine m_geti f_X11_152 rfl dX11_count_73 q5 ?_
    exact m_ireturn dX11_count_76 rfl rfl ⟨rfl, _, rfl, h⟩
  rw [if_neg c4] at h
  by_cases c5 : x1 = 5
  · rw [if_pos c5] at h
    refine m_tableIn (off := 76) (tgt := 77) dX11_count_1 (by rw [c5]; decide) (by rw [c5]; decide) (by rw [c5]; decide) (by decide) ?_
    refine m_aload_n dX11_count_77 rfl 0 rfl ?_
    obtain ⟨q6, h⟩ := h
    refine m_geti f_X11_429 rfl dX11_count_78 q6 ?_
    exact m_ireturn dX11_count_81 rfl rfl ⟨rfl, _, rfl, h⟩
  rw [if_neg c5] at h
  by_cases c6 : x1 = 6
  · rw [if_pos c6] at h
    refine m_tableIn (off := 81) (tgt := 82) dX11_count_1 (by rw [c6]; decide) (by rw [c6]; decide) (by rw [c6]; decide) (by decide) ?_
    refine m_aload_n dX11_count_82 rfl 0 rfl ?_
    obtain ⟨q7, h⟩ := h
    refine m_geti f_X11_135 rfl dX11_count_83 q7 ?_
    exact m_ireturn dX11_count_86 rfl rfl ⟨rfl, _, rfl, h⟩
  rw [if_neg c6] at h
  by_cases c7 : x1 = 7
  · rw [if_pos c7] at h
    refine m_tableIn (off := 86) (tgt := 87) dX11_count_1 (by rw [c7]; decide) (by rw [c7]; decide) (by rw [c7]; decide) (by decide) ?_
    refine m_aload_n dX11_count_87 rfl 0 rfl ?_
    obtain ⟨q8, h⟩ := h
    refine m_geti f_X11_131 rfl dX11_count_88 q8 ?_
    exact m_ireturn dX11_count_91 rfl rfl ⟨rfl, _, rfl, h⟩
  rw [if_neg c7] at h
  by_cases c8 : x1 = 8
  · rw [if_pos c8] at h
    refine m_tableIn (off := 91) (tgt := 92) dX11_count_1 (by rw [c8]; decide) (by rw [c8]; decide) (by rw [c8]; decide) (by decide) ?_
    refine m_aload_n dX11_count_92 rfl 0 rfl ?_
    obtain ⟨q9, h⟩ := h
    refine m_geti f_X11_159 rfl dX11_count_93 q9 ?_
    exact m_ireturn dX11_count_96 rfl rfl ⟨rfl, _, rfl, h⟩
  rw [if_neg c8] at h
  refine m_tableOut (tgt := 97) dX11_count_1 (m_sw 0 8 (fun k h1 h2 => by have hk : k = 0 ∨ k = 1 ∨ k = 2 ∨ k = 3 ∨ k = 4 ∨ k = 5 ∨ k = 6 ∨ k = 7 ∨ k = 8 := (by omega); rcases hk with rfl | rfl | rfl | rfl | rfl | rfl | rfl | rfl | rfl <;> first | exact c0 | exact c1 | exact c2 | exact c3 | exact c4 | exact c5 | exact c6 | exact c7 | exact c8)) (by decide) ?_
  refine m_iconst (v := (-1)) dX11_count_97 (by decide) ?_
  exact m_ireturn dX11_count_98 rfl rfl ⟨rfl, _, rfl, h⟩
