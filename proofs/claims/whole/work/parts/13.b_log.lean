set_option maxHeartbeats 4000000 in
set_option maxRecDepth 100000 in
theorem e5_fall {d : Nat} {Th : mT} {Q : mM → Prop} {a0 : Nat} {M : mM} (h : Th.2.2 a0 = some (.inl 5) ∧ (Q (m_ui M a0 1 0))) : P5_fall (d + 1) Th a0 M Q := by
  refine m_C.of (by decide +kernel) (Nat.le_of_ble_eq_true rfl) ?_
  show m_W (d + 1) 0 0 yX5_fall cX5_fall 1 none (m_qv Th Q) 0 [(0, .ref a0)] [] Th M 0 0
  refine m_aload_n dX5_fall_0 rfl 0 rfl ?_
  refine m_iconst (v := 0) dX5_fall_1 (by decide) ?_
  obtain ⟨q1, h⟩ := h
  refine m_puti f_X5_15 rfl (Or.inl rfl) dX5_fall_2 q1 ⟨rfl, rfl⟩ ?_
  exact m_return dX5_fall_5 rfl ⟨rfl, rfl, h⟩
set_option maxHeartbeats 4000000 in
set_option maxRecDepth 100000 in
theorem e5_has {d : Nat} {Th : mT} {Q : Int32 → mM → Prop} {a0 : Nat} {x1 : Int32} {M : mM} (h : if x1 < 0 then (Q 0 M) else (Th.2.2 a0 = some (.inl 5) ∧ (m_bool ((if ((M).1 a0 1) ≤ x1 then 0 else (if 40 ≤ x1 then 0 else 1))) ∧ Q ((if ((M).1 a0 1) ≤ x1 then 0 else (if 40 ≤ x1 then 0 else 1))) M))) : P5_has (d + 1) Th a0 x1 M Q := by
  refine m_C.of (by decide +kernel) (Nat.le_of_ble_eq_true rfl) ?_
  show m_W (d + 1) 0 0 yX5_has cX5_has 2 (some .boolean) (m_qi Th Q) 0 [(0, .ref a0), (1, .int x1)] [] Th M 0 0
  refine m_iload_n dX5_has_0 rfl 1 rfl ?_
  refine m_if_lt (tgt := 22) dX5_has_1 (by decide) (fun c1 => ?_) (fun c1 => ?_)
  · rw [if_pos c1] at h
    refine m_iconst (v := 0) dX5_has_22 (by decide) ?_
    exact m_ireturn dX5_has_23 rfl (by decide) ⟨rfl, _, rfl, h⟩
  · rw [if_neg c1] at h
    refine m_iload_n dX5_has_4 rfl 1 rfl ?_
    refine m_aload_n dX5_has_5 rfl 0 rfl ?_
    obtain ⟨q1, h⟩ := h
    refine m_geti f_X5_15 rfl dX5_has_6 q1 ?_
    have hJ : m_W (d + 1) 0 0 yX5_has cX5_has 2 (some .boolean) (m_qi Th Q) 23 [(0, .ref a0), (1, .int x1)] [.int ((if ((M).1 a0 1) ≤ x1 then 0 else (if 40 ≤ x1 then 0 else 1)))] Th M 0 0 := by
      exact m_ireturn dX5_has_23 rfl h.1 ⟨rfl, _, rfl, h.2⟩
    refine m_icmp_ge (tgt := 22) dX5_has_9 (by decide) (fun c1 => ?_) (fun c1 => ?_)
    · simp only [if_pos c1] at hJ
      refine m_iconst (v := 0) dX5_has_22 (by decide) ?_
      exact hJ
    · simp only [if_neg c1] at hJ
      refine m_iload_n dX5_has_12 rfl 1 rfl ?_
      refine m_bipush (v := 40) dX5_has_13 (by decide) ?_
      refine m_icmp_ge (tgt := 22) dX5_has_15 (by decide) (fun c2 => ?_) (fun c2 => ?_)
      · simp only [if_pos c2] at hJ
        refine m_iconst (v := 0) dX5_has_22 (by decide) ?_
        exact hJ
      · simp only [if_neg c2] at hJ
        refine m_iconst (v := 1) dX5_has_18 (by decide) ?_
        refine m_goto (tgt := 23) dX5_has_19 (by decide) ?_
        exact hJ
set_option maxHeartbeats 4000000 in
set_option maxRecDepth 100000 in
theorem e5_entry {d : Nat} {Th : mT} {Q : Int32 → mM → Prop} {a0 : Nat} {x1 : Int32} {x2 : Int32} {M : mM} (h : Th.2.2 a0 = some (.inl 5) ∧ (P5_has d Th a0 x1 M (fun (v2 : Int32) (M1 : mM) => if v2 = 0 then (Q (-1) M1) else (P10_within d Th x2 0 2 M1 (fun (v5 : Int32) (M4 : mM) => if v5 = 0 then (Q (-1) M4) else (∃ r6 : Nat, M4.2.2 a0 0 = some r6 ∧ (m_ok Th r6 .int (((3 * x1) + x2)) ∧ (Q (((M4).1 r6 (Int32.toNatClampNeg (((3 * x1) + x2))))) M4)))))))) : P5_entry (d + 1) Th a0 x1 x2 M Q := by
  refine m_C.of (by decide +kernel) (Nat.le_of_ble_eq_true rfl) ?_
  show m_W (d + 1) 0 0 yX5_entry cX5_entry 3 (some .int) (m_qi Th Q) 0 [(0, .ref a0), (1, .int x1), (2, .int x2)] [] Th M 0 0
  refine m_aload_n dX5_entry_0 rfl 0 rfl ?_
  refine m_iload_n dX5_entry_1 rfl 1 rfl ?_
  obtain ⟨q3, h⟩ := h
  refine m_invV (ci := 5) (As := [.int x1]) (d' := d) (mc' := 0) (ms' := 0) (rest := []) i_5_has v_5_has t_5_has l_X5_19 ⟨_, _, rfl⟩ dX5_entry_2 rfl rfl q3 (Nat.le_of_ble_eq_true rfl) (Nat.le_refl _) ⟨Nat.le_refl _, Nat.le_refl _⟩ (m_Ci h (fun v2 M1 h => ?_))
  show m_W (d + 1) 0 0 yX5_entry cX5_entry 3 (some .int) (m_qi Th Q) 5 [(0, .ref a0), (1, .int x1), (2, .int x2)] [.int v2] Th M1 0 0
  refine m_if_eq (tgt := 30) dX5_entry_5 (by decide) (fun c1 => ?_) (fun c1 => ?_)
  · rw [if_pos c1] at h
    refine m_iconst (v := (-1)) dX5_entry_30 (by decide) ?_
    exact m_ireturn dX5_entry_31 rfl rfl ⟨rfl, _, rfl, h⟩
  · rw [if_neg c1] at h
    refine m_iload_n dX5_entry_8 rfl 2 rfl ?_
    refine m_iconst (v := 0) dX5_entry_9 (by decide) ?_
    refine m_iconst (v := 2) dX5_entry_10 (by decide) ?_
    refine m_invSN (As := [.int x2, .int 0, .int 2]) (d' := d) (mc' := 0) (ms' := 0) (rest := []) i_10_within s_10_within l_X5_23 dX5_entry_11 rfl rfl (Nat.le_of_ble_eq_true rfl) (Nat.le_refl _) ⟨Nat.le_refl _, Nat.le_refl _⟩ (m_Ci h (fun v5 M4 h => ?_))
    show m_W (d + 1) 0 0 yX5_entry cX5_entry 3 (some .int) (m_qi Th Q) 14 [(0, .ref a0), (1, .int x1), (2, .int x2)] [.int v5] Th M4 0 0
    refine m_if_eq (tgt := 30) dX5_entry_14 (by decide) (fun c1 => ?_) (fun c1 => ?_)
    · rw [if_pos c1] at h
      refine m_iconst (v := (-1)) dX5_entry_30 (by decide) ?_
      exact m_ireturn dX5_entry_31 rfl rfl ⟨rfl, _, rfl, h⟩
    · rw [if_neg c1] at h
      refine m_aload_n dX5_entry_17 rfl 0 rfl ?_
      obtain ⟨r6, q7, h⟩ := h
      refine m_getr f_X5_9 rfl dX5_entry_18 q3 q7 ?_
      refine m_iconst (v := 3) dX5_entry_21 (by decide) ?_
      refine m_iload_n dX5_entry_22 rfl 1 rfl ?_
      refine m_imul dX5_entry_23 ?_
      refine m_iload_n dX5_entry_24 rfl 2 rfl ?_
      refine m_iadd dX5_entry_25 ?_
      obtain ⟨q8, h⟩ := h
      refine m_iald dX5_entry_26 q8 ?_
      refine m_goto (tgt := 31) dX5_entry_27 (by decide) ?_
      exact m_ireturn dX5_entry_31 rfl rfl ⟨rfl, _, rfl, h⟩
set_option maxHeartbeats 4000000 in
set_option maxRecDepth 100000 in
theorem e5_add {d : Nat} {Th : mT} {Q : mM → Prop} {a0 : Nat} {x1 : Int32} {x2 : Int32} {x3 : Int32} {M : mM} (h : Th.2.2 a0 = some (.inl 5) ∧ (if ((M).1 a0 1) < 0 then (Q M) else (if ((M).1 a0 1) < 40 then (∃ r2 : Nat, M.2.2 a0 0 = some r2 ∧ (m_okw Th r2 .int ((3 * ((M).1 a0 1))) ∧ (∀ M5 : mM, M5 = m_ui M r2 (Int32.toNatClampNeg ((3 * ((M).1 a0 1)))) x1 → m_okw Th r2 .int (((3 * ((M5).1 a0 1)) + 1)) ∧ (∀ M7 : mM, M7 = m_ui M5 r2 (Int32.toNatClampNeg (((3 * ((M5).1 a0 1)) + 1))) x2 → m_okw Th r2 .int (((3 * ((M7).1 a0 1)) + 2)) ∧ (∀ M9 : mM, M9 = m_ui M7 r2 (Int32.toNatClampNeg (((3 * ((M7).1 a0 1)) + 2))) x3 → Q (m_ui M9 a0 1 ((((M9).1 a0 1) + 1)))))))) else (Q M)))) : P5_add (d + 1) Th a0 x1 x2 x3 M Q := by
  refine m_C.of (by decide +kernel) (Nat.le_of_ble_eq_true rfl) ?_
  show m_W (d + 1) 0 0 yX5_add cX5_add 4 none (m_qv Th Q) 0 [(0, .ref a0), (1, .int x1), (2, .int x2), (3, .int x3)] [] Th M 0 0
  refine m_aload_n dX5_add_0 rfl 0 rfl ?_
  obtain ⟨q1, h⟩ := h
  refine m_geti f_X5_15 rfl dX5_add_1 q1 ?_
  refine m_if_lt (tgt := 16) dX5_add_4 (by decide) (fun c1 => ?_) (fun c1 => ?_)
  · rw [if_pos c1] at h
    exact m_return dX5_add_16 rfl ⟨rfl, rfl, h⟩
  · rw [if_neg c1] at h
    refine m_aload_n dX5_add_7 rfl 0 rfl ?_
    refine m_geti f_X5_15 rfl dX5_add_8 q1 ?_
    refine m_bipush (v := 40) dX5_add_11 (by decide) ?_
    refine m_icmp_lt (tgt := 17) dX5_add_13 (by decide) (fun c1 => ?_) (fun c1 => ?_)
    · rw [if_pos c1] at h
      refine m_aload_n dX5_add_17 rfl 0 rfl ?_
      obtain ⟨r2, q3, h⟩ := h
      refine m_getr f_X5_9 rfl dX5_add_18 q1 q3 ?_
      refine m_iconst (v := 3) dX5_add_21 (by decide) ?_
      refine m_aload_n dX5_add_22 rfl 0 rfl ?_
      refine m_geti f_X5_15 rfl dX5_add_23 q1 ?_
      refine m_imul dX5_add_26 ?_
      refine m_iload_n dX5_add_27 rfl 1 rfl ?_
      obtain ⟨q4, h⟩ := h
      refine m_iast dX5_add_28 q4 ?_
      refine m_aload_n dX5_add_29 rfl 0 rfl ?_
      refine m_getr f_X5_9 rfl dX5_add_30 q1 q3 ?_
      refine m_iconst (v := 3) dX5_add_33 (by decide) ?_
      refine m_aload_n dX5_add_34 rfl 0 rfl ?_
      obtain ⟨M5, e_M5⟩ : ∃ M5 : mM, M5 = m_ui M r2 (Int32.toNatClampNeg ((3 * ((M).1 a0 1)))) x1 := ⟨_, rfl⟩
      have h := h M5 e_M5
      rw [← e_M5]
      refine m_geti f_X5_15 rfl dX5_add_35 q1 ?_
      refine m_imul dX5_add_38 ?_
      refine m_iconst (v := 1) dX5_add_39 (by decide) ?_
      refine m_iadd dX5_add_40 ?_
      refine m_iload_n dX5_add_41 rfl 2 rfl ?_
      obtain ⟨q6, h⟩ := h
      refine m_iast dX5_add_42 q6 ?_
      refine m_aload_n dX5_add_43 rfl 0 rfl ?_
      refine m_getr f_X5_9 rfl dX5_add_44 q1 (by rw [e_M5]; exact q3) ?_
      refine m_iconst (v := 3) dX5_add_47 (by decide) ?_
      refine m_aload_n dX5_add_48 rfl 0 rfl ?_
      obtain ⟨M7, e_M7⟩ : ∃ M7 : mM, M7 = m_ui M5 r2 (Int32.toNatClampNeg (((3 * ((M5).1 a0 1)) + 1))) x2 := ⟨_, rfl⟩
      have h := h M7 e_M7
      rw [← e_M7]
      refine m_geti f_X5_15 rfl dX5_add_49 q1 ?_
      refine m_imul dX5_add_52 ?_
      refine m_iconst (v := 2) dX5_add_53 (by decide) ?_
      refine m_iadd dX5_add_54 ?_
      refine m_iload_n dX5_add_55 rfl 3 rfl ?_
      obtain ⟨q8, h⟩ := h
      refine m_iast dX5_add_56 q8 ?_
      refine m_aload_n dX5_add_57 rfl 0 rfl ?_
      refine m_dup dX5_add_58 rfl ?_
      obtain ⟨M9, e_M9⟩ : ∃ M9 : mM, M9 = m_ui M7 r2 (Int32.toNatClampNeg (((3 * ((M7).1 a0 1)) + 2))) x3 := ⟨_, rfl⟩
      have h := h M9 e_M9
      rw [← e_M9]
      refine m_geti f_X5_15 rfl dX5_add_59 q1 ?_
      refine m_iconst (v := 1) dX5_add_62 (by decide) ?_
      refine m_iadd dX5_add_63 ?_
      refine m_puti f_X5_15 rfl (Or.inl rfl) dX5_add_64 q1 ⟨rfl, rfl⟩ ?_
      exact m_return dX5_add_67 rfl ⟨rfl, rfl, h⟩
    · rw [if_neg c1] at h
      exact m_return dX5_add_16 rfl ⟨rfl, rfl, h⟩
set_option maxHeartbeats 4000000 in
set_option maxRecDepth 100000 in
theorem e5_lastTick {d : Nat} {Th : mT} {Q : Int32 → mM → Prop} {a0 : Nat} {M : mM} (h : Th.2.2 a0 = some (.inl 5) ∧ (if ((M).1 a0 1) = 0 then (Q 0 M) else (P5_entry d Th a0 ((((M).1 a0 1) - 1)) 2 M (fun (v3 : Int32) (M2 : mM) => Q v3 M2)))) : P5_lastTick (d + 1) Th a0 M Q := by
  refine m_C.of (by decide +kernel) (Nat.le_of_ble_eq_true rfl) ?_
  show m_W (d + 1) 0 0 yX5_lastTick cX5_lastTick 1 (some .int) (m_qi Th Q) 0 [(0, .ref a0)] [] Th M 0 0
  refine m_aload_n dX5_lastTick_0 rfl 0 rfl ?_
  obtain ⟨q1, h⟩ := h
  refine m_geti f_X5_15 rfl dX5_lastTick_1 q1 ?_
  refine m_if_ne (tgt := 11) dX5_lastTick_4 (by decide) (fun c1 => ?_) (fun c1 => ?_)
  · rw [if_neg c1] at h
    refine m_aload_n dX5_lastTick_11 rfl 0 rfl ?_
    refine m_aload_n dX5_lastTick_12 rfl 0 rfl ?_
    refine m_geti f_X5_15 rfl dX5_lastTick_13 q1 ?_
    refine m_iconst (v := 1) dX5_lastTick_16 (by decide) ?_
    refine m_isub dX5_lastTick_17 ?_
    refine m_iconst (v := 2) dX5_lastTick_18 (by decide) ?_
    refine m_invV (ci := 5) (As := [.int ((((M).1 a0 1) - 1)), .int 2]) (d' := d) (mc' := 0) (ms' := 0) (rest := []) i_5_entry v_5_entry t_5_entry l_X5_27 ⟨_, _, rfl⟩ dX5_lastTick_19 rfl rfl q1 (Nat.le_of_ble_eq_true rfl) (Nat.le_refl _) ⟨Nat.le_refl _, Nat.le_refl _⟩ (m_Ci h (fun v3 M2 h => ?_))
    show m_W (d + 1) 0 0 yX5_lastTick cX5_lastTick 1 (some .int) (m_qi Th Q) 22 [(0, .ref a0)] [.int v3] Th M2 0 0
    exact m_ireturn dX5_lastTick_22 rfl rfl ⟨rfl, _, rfl, h⟩
  · rw [if_pos c1] at h
    refine m_iconst (v := 0) dX5_lastTick_7 (by decide) ?_
    refine m_goto (tgt := 22) dX5_lastTick_8 (by decide) ?_
    exact m_ireturn dX5_lastTick_22 rfl rfl ⟨rfl, _, rfl, h⟩
set_option maxHeartbeats 4000000 in
set_option maxRecDepth 100000 in
theorem h5_tells_2 {d : Nat} {Th : mT} {Q : Int32 → mM → Prop} {a0 : Nat} {x1 : Int32} {x2 : Int32} {x3 : Int32} {M : mM} (h : Th.2.2 a0 = some (.inl 5) ∧ (if ((M).1 a0 1) ≤ x3 then (Q 0 M) else (P5_entry d Th a0 x3 0 M (fun (v3 : Int32) (M2 : mM) => if v3 = x1 then (P5_entry d Th a0 x3 1 M2 (fun (v5 : Int32) (M4 : mM) => if v5 = x2 then (Q 1 M4) else (H5_tells_2 (d + 1) Th Q a0 x1 x2 (x3 + 1) M4))) else (H5_tells_2 (d + 1) Th Q a0 x1 x2 (x3 + 1) M2))))) : H5_tells_2 (d + 1) Th Q a0 x1 x2 x3 M := by
  show m_W (d + 1) 0 0 yX5_tells cX5_tells 4 (some .boolean) (m_qi Th Q) 2 [(0, .ref a0), (1, .int x1), (2, .int x2), (3, .int x3)] [] Th M 0 0
  refine m_iload_n dX5_tells_2 rfl 3 rfl ?_
  refine m_aload_n dX5_tells_3 rfl 0 rfl ?_
  obtain ⟨q1, h⟩ := h
  refine m_geti f_X5_15 rfl dX5_tells_4 q1 ?_
  refine m_icmp_ge (tgt := 38) dX5_tells_7 (by decide) (fun c1 => ?_) (fun c1 => ?_)
  · rw [if_pos c1] at h
    refine m_iconst (v := 0) dX5_tells_38 (by decide) ?_
    exact m_ireturn dX5_tells_39 rfl (by decide) ⟨rfl, _, rfl, h⟩
  · rw [if_neg c1] at h
    refine m_aload_n dX5_tells_10 rfl 0 rfl ?_
    refine m_iload_n dX5_tells_11 rfl 3 rfl ?_
    refine m_iconst (v := 0) dX5_tells_12 (by decide) ?_
    refine m_invV (ci := 5) (As := [.int x3, .int 0]) (d' := d) (mc' := 0) (ms' := 0) (rest := []) i_5_entry v_5_entry t_5_entry l_X5_27 ⟨_, _, rfl⟩ dX5_tells_13 rfl rfl q1 (Nat.le_of_ble_eq_true rfl) (Nat.le_refl _) ⟨Nat.le_refl _, Nat.le_refl _⟩ (m_Ci h (fun v3 M2 h => ?_))
    show m_W (d + 1) 0 0 yX5_tells cX5_tells 4 (some .boolean) (m_qi Th Q) 16 [(0, .ref a0), (1, .int x1), (2, .int x2), (3, .int x3)] [.int v3] Th M2 0 0
    refine m_iload_n dX5_tells_16 rfl 1 rfl ?_
    refine m_icmp_ne (tgt := 32) dX5_tells_17 (by decide) (fun c1 => ?_) (fun c1 => ?_)
    · rw [if_neg c1] at h
      refine m_iinc (v := x3 + 1) (lv' := [(3, .int (x3 + 1)), (0, .ref a0), (1, .int x1), (2, .int x2)]) dX5_tells_32 3 rfl rfl (by decide) rfl ?_
      refine m_goto (tgt := 2) dX5_tells_35 (by decide) ?_
      exact m_sub [1, 2, 3, 0] rfl h
    · rw [if_pos c1] at h
      refine m_aload_n dX5_tells_20 rfl 0 rfl ?_
      refine m_iload_n dX5_tells_21 rfl 3 rfl ?_
      refine m_iconst (v := 1) dX5_tells_22 (by decide) ?_
      refine m_invV (ci := 5) (As := [.int x3, .int 1]) (d' := d) (mc' := 0) (ms' := 0) (rest := []) i_5_entry v_5_entry t_5_entry l_X5_27 ⟨_, _, rfl⟩ dX5_tells_23 rfl rfl q1 (Nat.le_of_ble_eq_true rfl) (Nat.le_refl _) ⟨Nat.le_refl _, Nat.le_refl _⟩ (m_Ci h (fun v5 M4 h => ?_))
      show m_W (d + 1) 0 0 yX5_tells cX5_tells 4 (some .boolean) (m_qi Th Q) 26 [(0, .ref a0), (1, .int x1), (2, .int x2), (3, .int x3)] [.int v5] Th M4 0 0
      refine m_iload_n dX5_tells_26 rfl 2 rfl ?_
      refine m_icmp_ne (tgt := 32) dX5_tells_27 (by decide) (fun c1 => ?_) (fun c1 => ?_)
      · rw [if_neg c1] at h
        refine m_iinc (v := x3 + 1) (lv' := [(3, .int (x3 + 1)), (0, .ref a0), (1, .int x1), (2, .int x2)]) dX5_tells_32 3 rfl rfl (by decide) rfl ?_
        refine m_goto (tgt := 2) dX5_tells_35 (by decide) ?_
        exact m_sub [1, 2, 3, 0] rfl h
      · rw [if_pos c1] at h
        refine m_iconst (v := 1) dX5_tells_30 (by decide) ?_
        exact m_ireturn dX5_tells_31 rfl (by decide) ⟨rfl, _, rfl, h⟩
set_option maxHeartbeats 4000000 in
set_option maxRecDepth 100000 in
theorem e5_tells {d : Nat} {Th : mT} {Q : Int32 → mM → Prop} {a0 : Nat} {x1 : Int32} {x2 : Int32} {M : mM} (h : H5_tells_2 (d + 1) Th Q a0 x1 x2 0 M) : P5_tells (d + 1) Th a0 x1 x2 M Q := by
  refine m_C.of (by decide +kernel) (Nat.le_of_ble_eq_true rfl) ?_
  show m_W (d + 1) 0 0 yX5_tells cX5_tells 4 (some .boolean) (m_qi Th Q) 0 [(0, .ref a0), (1, .int x1), (2, .int x2)] [] Th M 0 0
  refine m_iconst (v := 0) dX5_tells_0 (by decide) ?_
  refine m_istore_n (lv' := [(3, .int 0), (0, .ref a0), (1, .int x1), (2, .int x2)]) dX5_tells_1 rfl (by decide) rfl ?_
  exact m_sub [1, 2, 3, 0] rfl h
set_option maxHeartbeats 4000000 in
set_option maxRecDepth 100000 in
theorem h5_goingBefore_4 {d : Nat} {Th : mT} {Q : Int32 → mM → Prop} {a0 : Nat} {x1 : Int32} {x2 : Int32} {x3 : Int32} {M : mM} (h : if x1 ≤ x3 then (Q x2 M) else (Th.2.2 a0 = some (.inl 5) ∧ (if ((M).1 a0 1) ≤ x3 then (Q x2 M) else (P5_entry d Th a0 x3 0 M (fun (v3 : Int32) (M2 : mM) => P5_entry d Th a0 x1 0 M2 (fun (v5 : Int32) (M4 : mM) => ∀ xv6 : Int32, xv6 = (if v3 = v5 then x3 else x2) → H5_goingBefore_4 (d + 1) Th Q a0 x1 xv6 (x3 + 1) M4)))))) : H5_goingBefore_4 (d + 1) Th Q a0 x1 x2 x3 M := by
  show m_W (d + 1) 0 0 yX5_goingBefore cX5_goingBefore 4 (some .int) (m_qi Th Q) 4 [(0, .ref a0), (1, .int x1), (2, .int x2), (3, .int x3)] [] Th M 0 0
  refine m_iload_n dX5_goingBefore_4 rfl 3 rfl ?_
  refine m_iload_n dX5_goingBefore_5 rfl 1 rfl ?_
  refine m_icmp_ge (tgt := 44) dX5_goingBefore_6 (by decide) (fun c1 => ?_) (fun c1 => ?_)
  · rw [if_pos c1] at h
    refine m_iload_n dX5_goingBefore_44 rfl 2 rfl ?_
    exact m_ireturn dX5_goingBefore_45 rfl rfl ⟨rfl, _, rfl, h⟩
  · rw [if_neg c1] at h
    refine m_iload_n dX5_goingBefore_9 rfl 3 rfl ?_
    refine m_aload_n dX5_goingBefore_10 rfl 0 rfl ?_
    obtain ⟨q1, h⟩ := h
    refine m_geti f_X5_15 rfl dX5_goingBefore_11 q1 ?_
    refine m_icmp_ge (tgt := 44) dX5_goingBefore_14 (by decide) (fun c1 => ?_) (fun c1 => ?_)
    · rw [if_pos c1] at h
      refine m_iload_n dX5_goingBefore_44 rfl 2 rfl ?_
      exact m_ireturn dX5_goingBefore_45 rfl rfl ⟨rfl, _, rfl, h⟩
    · rw [if_neg c1] at h
      refine m_aload_n dX5_goingBefore_17 rfl 0 rfl ?_
      refine m_iload_n dX5_goingBefore_18 rfl 3 rfl ?_
      refine m_iconst (v := 0) dX5_goingBefore_19 (by decide) ?_
      refine m_invV (ci := 5) (As := [.int x3, .int 0]) (d' := d) (mc' := 0) (ms' := 0) (rest := []) i_5_entry v_5_entry t_5_entry l_X5_27 ⟨_, _, rfl⟩ dX5_goingBefore_20 rfl rfl q1 (Nat.le_of_ble_eq_true rfl) (Nat.le_refl _) ⟨Nat.le_refl _, Nat.le_refl _⟩ (m_Ci h (fun v3 M2 h => ?_))
      show m_W (d + 1) 0 0 yX5_goingBefore cX5_goingBefore 4 (some .int) (m_qi Th Q) 23 [(0, .ref a0), (1, .int x1), (2, .int x2), (3, .int x3)] [.int v3] Th M2 0 0
      refine m_aload_n dX5_goingBefore_23 rfl 0 rfl ?_
      refine m_iload_n dX5_goingBefore_24 rfl 1 rfl ?_
      refine m_iconst (v := 0) dX5_goingBefore_25 (by decide) ?_
      refine m_invV (ci := 5) (As := [.int x1, .int 0]) (d' := d) (mc' := 0) (ms' := 0) (rest := [.int v3]) i_5_entry v_5_entry t_5_entry l_X5_27 ⟨_, _, rfl⟩ dX5_goingBefore_26 rfl rfl q1 (Nat.le_of_ble_eq_true rfl) (Nat.le_refl _) ⟨Nat.le_refl _, Nat.le_refl _⟩ (m_Ci h (fun v5 M4 h => ?_))
      show m_W (d + 1) 0 0 yX5_goingBefore cX5_goingBefore 4 (some .int) (m_qi Th Q) 29 [(0, .ref a0), (1, .int x1), (2, .int x2), (3, .int x3)] [.int v5, .int v3] Th M4 0 0
      have hJ : m_W (d + 1) 0 0 yX5_goingBefore cX5_goingBefore 4 (some .int) (m_qi Th Q) 37 [(0, .ref a0), (1, .int x1), (2, .int x2), (3, .int x3)] [.int ((if v3 = v5 then x3 else x2))] Th M4 0 0 := by
        obtain ⟨xv6, e_xv6⟩ : ∃ xv6 : Int32, xv6 = (if v3 = v5 then x3 else x2) := ⟨_, rfl⟩
        have h := h xv6 e_xv6
        rw [← e_xv6]
        refine m_istore_n (lv' := [(2, .int xv6), (0, .ref a0), (1, .int x1), (3, .int x3)]) dX5_goingBefore_37 rfl (by decide) rfl ?_
        refine m_iinc (v := x3 + 1) (lv' := [(3, .int (x3 + 1)), (2, .int xv6), (0, .ref a0), (1, .int x1)]) dX5_goingBefore_38 3 rfl rfl (by decide) rfl ?_
        refine m_goto (tgt := 4) dX5_goingBefore_41 (by decide) ?_
        exact m_sub [2, 3, 1, 0] rfl h
      refine m_icmp_ne (tgt := 36) dX5_goingBefore_29 (by decide) (fun c1 => ?_) (fun c1 => ?_)
      · simp only [if_neg c1] at hJ
        refine m_iload_n dX5_goingBefore_36 rfl 2 rfl ?_
        exact hJ
      · simp only [if_pos c1] at hJ
        refine m_iload_n dX5_goingBefore_32 rfl 3 rfl ?_
        refine m_goto (tgt := 37) dX5_goingBefore_33 (by decide) ?_
        exact hJ
set_option maxHeartbeats 4000000 in
set_option maxRecDepth 100000 in
theorem e5_goingBefore {d : Nat} {Th : mT} {Q : Int32 → mM → Prop} {a0 : Nat} {x1 : Int32} {M : mM} (h : H5_goingBefore_4 (d + 1) Th Q a0 x1 (-1) 0 M) : P5_goingBefore (d + 1) Th a0 x1 M Q := by
  refine m_C.of (by decide +kernel) (Nat.le_of_ble_eq_true rfl) ?_
  show m_W (d + 1) 0 0 yX5_goingBefore cX5_goingBefore 4 (some .int) (m_qi Th Q) 0 [(0, .ref a0), (1, .int x1)] [] Th M 0 0
  refine m_iconst (v := (-1)) dX5_goingBefore_0 (by decide) ?_
  refine m_istore_n (lv' := [(2, .int (-1)), (0, .ref a0), (1, .int x1)]) dX5_goingBefore_1 rfl (by decide) rfl ?_
  refine m_iconst (v := 0) dX5_goingBefore_2 (by decide) ?_
  refine m_istore_n (lv' := [(3, .int 0), (2, .int (-1)), (0, .ref a0), (1, .int x1)]) dX5_goingBefore_3 rfl (by decide) rfl ?_
  exact m_sub [2, 3, 1, 0] rfl h
set_option maxHeartbeats 4000000 in
set_option maxRecDepth 100000 in
theorem h5_seesGoing_2 {d : Nat} {Th : mT} {Q : Int32 → mM → Prop} {a0 : Nat} {x1 : Int32} {x2 : Int32} {M : mM} (h : if x1 ≤ x2 then (Q 0 M) else (Th.2.2 a0 = some (.inl 5) ∧ (if ((M).1 a0 1) ≤ x2 then (Q 0 M) else (P5_entry d Th a0 x2 0 M (fun (v3 : Int32) (M2 : mM) => P5_entry d Th a0 x1 0 M2 (fun (v5 : Int32) (M4 : mM) => if v3 = v5 then (H5_seesGoing_50 (d + 1) Th Q a0 x1 x2 0 M4) else (P5_entry d Th a0 x2 1 M4 (fun (v7 : Int32) (M6 : mM) => P5_entry d Th a0 x1 1 M6 (fun (v9 : Int32) (M8 : mM) => if v7 = v9 then (H5_seesGoing_50 (d + 1) Th Q a0 x1 x2 1 M8) else (H5_seesGoing_50 (d + 1) Th Q a0 x1 x2 0 M8)))))))))) : H5_seesGoing_2 (d + 1) Th Q a0 x1 x2 M := by
  show m_W (d + 1) 0 0 yX5_seesGoing cX5_seesGoing 4 (some .boolean) (m_qi Th Q) 2 [(0, .ref a0), (1, .int x1), (2, .int x2)] [] Th M 0 0
  refine m_iload_n dX5_seesGoing_2 rfl 2 rfl ?_
  refine m_iload_n dX5_seesGoing_3 rfl 1 rfl ?_
  refine m_icmp_ge (tgt := 80) dX5_seesGoing_4 (by decide) (fun c1 => ?_) (fun c1 => ?_)
  · rw [if_pos c1] at h
    refine m_iconst (v := 0) dX5_seesGoing_80 (by decide) ?_
    exact m_ireturn dX5_seesGoing_81 rfl (by decide) ⟨rfl, _, rfl, h⟩
  · rw [if_neg c1] at h
    refine m_iload_n dX5_seesGoing_7 rfl 2 rfl ?_
    refine m_aload_n dX5_seesGoing_8 rfl 0 rfl ?_
    obtain ⟨q1, h⟩ := h
    refine m_geti f_X5_15 rfl dX5_seesGoing_9 q1 ?_
    refine m_icmp_ge (tgt := 80) dX5_seesGoing_12 (by decide) (fun c1 => ?_) (fun c1 => ?_)
    · rw [if_pos c1] at h
      refine m_iconst (v := 0) dX5_seesGoing_80 (by decide) ?_
      exact m_ireturn dX5_seesGoing_81 rfl (by decide) ⟨rfl, _, rfl, h⟩
    · rw [if_neg c1] at h
      refine m_aload_n dX5_seesGoing_15 rfl 0 rfl ?_
      refine m_iload_n dX5_seesGoing_16 rfl 2 rfl ?_
      refine m_iconst (v := 0) dX5_seesGoing_17 (by decide) ?_
      refine m_invV (ci := 5) (As := [.int x2, .int 0]) (d' := d) (mc' := 0) (ms' := 0) (rest := []) i_5_entry v_5_entry t_5_entry l_X5_27 ⟨_, _, rfl⟩ dX5_seesGoing_18 rfl rfl q1 (Nat.le_of_ble_eq_true rfl) (Nat.le_refl _) ⟨Nat.le_refl _, Nat.le_refl _⟩ (m_Ci h (fun v3 M2 h => ?_))
      show m_W (d + 1) 0 0 yX5_seesGoing cX5_seesGoing 4 (some .boolean) (m_qi Th Q) 21 [(0, .ref a0), (1, .int x1), (2, .int x2)] [.int v3] Th M2 0 0
      refine m_aload_n dX5_seesGoing_21 rfl 0 rfl ?_
      refine m_iload_n dX5_seesGoing_22 rfl 1 rfl ?_
      refine m_iconst (v := 0) dX5_seesGoing_23 (by decide) ?_
      refine m_invV (ci := 5) (As := [.int x1, .int 0]) (d' := d) (mc' := 0) (ms' := 0) (rest := [.int v3]) i_5_entry v_5_entry t_5_entry l_X5_27 ⟨_, _, rfl⟩ dX5_seesGoing_24 rfl rfl q1 (Nat.le_of_ble_eq_true rfl) (Nat.le_refl _) ⟨Nat.le_refl _, Nat.le_refl _⟩ (m_Ci h (fun v5 M4 h => ?_))
      show m_W (d + 1) 0 0 yX5_seesGoing cX5_seesGoing 4 (some .boolean) (m_qi Th Q) 27 [(0, .ref a0), (1, .int x1), (2, .int x2)] [.int v5, .int v3] Th M4 0 0
      refine m_icmp_eq (tgt := 49) dX5_seesGoing_27 (by decide) (fun c1 => ?_) (fun c1 => ?_)
      · rw [if_pos c1] at h
        refine m_iconst (v := 0) dX5_seesGoing_49 (by decide) ?_
        exact h
      · rw [if_neg c1] at h
        refine m_aload_n dX5_seesGoing_30 rfl 0 rfl ?_
        refine m_iload_n dX5_seesGoing_31 rfl 2 rfl ?_
        refine m_iconst (v := 1) dX5_seesGoing_32 (by decide) ?_
        refine m_invV (ci := 5) (As := [.int x2, .int 1]) (d' := d) (mc' := 0) (ms' := 0) (rest := []) i_5_entry v_5_entry t_5_entry l_X5_27 ⟨_, _, rfl⟩ dX5_seesGoing_33 rfl rfl q1 (Nat.le_of_ble_eq_true rfl) (Nat.le_refl _) ⟨Nat.le_refl _, Nat.le_refl _⟩ (m_Ci h (fun v7 M6 h => ?_))
        show m_W (d + 1) 0 0 yX5_seesGoing cX5_seesGoing 4 (some .boolean) (m_qi Th Q) 36 [(0, .ref a0), (1, .int x1), (2, .int x2)] [.int v7] Th M6 0 0
        refine m_aload_n dX5_seesGoing_36 rfl 0 rfl ?_
        refine m_iload_n dX5_seesGoing_37 rfl 1 rfl ?_
        refine m_iconst (v := 1) dX5_seesGoing_38 (by decide) ?_
        refine m_invV (ci := 5) (As := [.int x1, .int 1]) (d' := d) (mc' := 0) (ms' := 0) (rest := [.int v7]) i_5_entry v_5_entry t_5_entry l_X5_27 ⟨_, _, rfl⟩ dX5_seesGoing_39 rfl rfl q1 (Nat.le_of_ble_eq_true rfl) (Nat.le_refl _) ⟨Nat.le_refl _, Nat.le_refl _⟩ (m_Ci h (fun v9 M8 h => ?_))
        show m_W (d + 1) 0 0 yX5_seesGoing cX5_seesGoing 4 (some .boolean) (m_qi Th Q) 42 [(0, .ref a0), (1, .int x1), (2, .int x2)] [.int v9, .int v7] Th M8 0 0
        refine m_icmp_ne (tgt := 49) dX5_seesGoing_42 (by decide) (fun c1 => ?_) (fun c1 => ?_)
        · rw [if_neg c1] at h
          refine m_iconst (v := 0) dX5_seesGoing_49 (by decide) ?_
          exact h
        · rw [if_pos c1] at h
          refine m_iconst (v := 1) dX5_seesGoing_45 (by decide) ?_
          refine m_goto (tgt := 50) dX5_seesGoing_46 (by decide) ?_
          exact h
set_option maxHeartbeats 4000000 in
set_option maxRecDepth 100000 in
theorem h5_seesGoing_50 {d : Nat} {Th : mT} {Q : Int32 → mM → Prop} {a0 : Nat} {x1 : Int32} {x2 : Int32} {s0 : Int32} {M : mM} (h : if s0 = 0 then (H5_seesGoing_2 (d + 1) Th Q a0 x1 (x2 + 1) M) else (Th.2.2 a0 = some (.inl 5) ∧ (P5_entry d Th a0 x2 2 M (fun (v2 : Int32) (M1 : mM) => P5_entry d Th a0 x1 2 M1 (fun (v5 : Int32) (M4 : mM) => if v2 < (v5 - 2) then (H5_seesGoing_2 (d + 1) Th Q a0 x1 (x2 + 1) M4) else (Q 1 M4)))))) : H5_seesGoing_50 (d + 1) Th Q a0 x1 x2 s0 M := by
  show m_W (d + 1) 0 0 yX5_seesGoing cX5_seesGoing 4 (some .boolean) (m_qi Th Q) 50 [(0, .ref a0), (1, .int x1), (2, .int x2)] [.int s0] Th M 0 0
  refine m_istore_n (lv' := [(3, .int s0), (0, .ref a0), (1, .int x1), (2, .int x2)]) dX5_seesGoing_50 rfl (by decide) rfl ?_
  refine m_iload_n dX5_seesGoing_51 rfl 0 rfl ?_
  refine m_if_eq (tgt := 74) dX5_seesGoing_52 (by decide) (fun c1 => ?_) (fun c1 => ?_)
  · rw [if_pos c1] at h
    refine m_iinc (v := x2 + 1) (lv' := [(2, .int (x2 + 1)), (3, .int s0), (0, .ref a0), (1, .int x1)]) dX5_seesGoing_74 3 rfl rfl (by decide) rfl ?_
    refine m_goto (tgt := 2) dX5_seesGoing_77 (by decide) ?_
    exact m_sub [2, 3, 0] rfl h
  · rw [if_neg c1] at h
    refine m_aload_n dX5_seesGoing_55 rfl 1 rfl ?_
    refine m_iload_n dX5_seesGoing_56 rfl 3 rfl ?_
    refine m_iconst (v := 2) dX5_seesGoing_57 (by decide) ?_
    obtain ⟨q3, h⟩ := h
    refine m_invV (ci := 5) (As := [.int x2, .int 2]) (d' := d) (mc' := 0) (ms' := 0) (rest := []) i_5_entry v_5_entry t_5_entry l_X5_27 ⟨_, _, rfl⟩ dX5_seesGoing_58 rfl rfl q3 (Nat.le_of_ble_eq_true rfl) (Nat.le_refl _) ⟨Nat.le_refl _, Nat.le_refl _⟩ (m_Ci h (fun v2 M1 h => ?_))
    show m_W (d + 1) 0 0 yX5_seesGoing cX5_seesGoing 4 (some .boolean) (m_qi Th Q) 61 [(3, .int s0), (0, .ref a0), (1, .int x1), (2, .int x2)] [.int v2] Th M1 0 0
    refine m_aload_n dX5_seesGoing_61 rfl 1 rfl ?_
    refine m_iload_n dX5_seesGoing_62 rfl 2 rfl ?_
    refine m_iconst (v := 2) dX5_seesGoing_63 (by decide) ?_
    refine m_invV (ci := 5) (As := [.int x1, .int 2]) (d' := d) (mc' := 0) (ms' := 0) (rest := [.int v2]) i_5_entry v_5_entry t_5_entry l_X5_27 ⟨_, _, rfl⟩ dX5_seesGoing_64 rfl rfl q3 (Nat.le_of_ble_eq_true rfl) (Nat.le_refl _) ⟨Nat.le_refl _, Nat.le_refl _⟩ (m_Ci h (fun v5 M4 h => ?_))
    show m_W (d + 1) 0 0 yX5_seesGoing cX5_seesGoing 4 (some .boolean) (m_qi Th Q) 67 [(3, .int s0), (0, .ref a0), (1, .int x1), (2, .int x2)] [.int v5, .int v2] Th M4 0 0
    refine m_iconst (v := 2) dX5_seesGoing_67 (by decide) ?_
    refine m_isub dX5_seesGoing_68 ?_
    refine m_icmp_lt (tgt := 74) dX5_seesGoing_69 (by decide) (fun c1 => ?_) (fun c1 => ?_)
    · rw [if_pos c1] at h
      refine m_iinc (v := x2 + 1) (lv' := [(2, .int (x2 + 1)), (3, .int s0), (0, .ref a0), (1, .int x1)]) dX5_seesGoing_74 3 rfl rfl (by decide) rfl ?_
      refine m_goto (tgt := 2) dX5_seesGoing_77 (by decide) ?_
      exact m_sub [2, 3, 0] rfl h
    · rw [if_neg c1] at h
      refine m_iconst (v := 1) dX5_seesGoing_72 (by decide) ?_
      exact m_ireturn dX5_seesGoing_73 rfl (by decide) ⟨rfl, _, rfl, h⟩
set_option maxHeartbeats 4000000 in
set_option maxRecDepth 100000 in
theorem e5_seesGoing {d : Nat} {Th : mT} {Q : Int32 → mM → Prop} {a0 : Nat} {x1 : Int32} {M : mM} (h : H5_seesGoing_2 (d + 1) Th Q a0 x1 0 M) : P5_seesGoing (d + 1) Th a0 x1 M Q := by
  refine m_C.of (by decide +kernel) (Nat.le_of_ble_eq_true rfl) ?_
  show m_W (d + 1) 0 0 yX5_seesGoing cX5_seesGoing 4 (some .boolean) (m_qi Th Q) 0 [(0, .ref a0), (1, .int x1)] [] Th M 0 0
  refine m_iconst (v := 0) dX5_seesGoing_0 (by decide) ?_
  refine m_istore_n (lv' := [(2, .int 0), (0, .ref a0), (1, .int x1)]) dX5_seesGoing_1 rfl (by decide) rfl ?_
  exact m_sub [1, 2, 0] rfl h
set_option maxHeartbeats 4000000 in
set_option maxRecDepth 100000 in
theorem h5_firstWrong_2 {d : Nat} {Th : mT} {Q : Int32 → mM → Prop} {a0 : Nat} {a1 : Nat} {x2 : Int32} {x3 : Int32} {M : mM} (h : if (3 * x2) ≤ x3 then (Th.2.2 a0 = some (.inl 5) ∧ (Q ((if ((M).1 a0 1) ≤ x2 then (-1) else (3 * x2))) M)) else (Th.2.2 a0 = some (.inl 5) ∧ (P5_has d Th a0 ((x3 / 3)) M (fun (v3 : Int32) (M2 : mM) => if v3 = 0 then (Q x3 M2) else (Th.2.2 a1 = some (.inl 9) ∧ (P9_numberAt d Th a1 x3 M2 (fun (v6 : Int32) (M5 : mM) => P5_entry d Th a0 ((x3 / 3)) ((x3 - x3 / 3 * 3)) M5 (fun (v9 : Int32) (M8 : mM) => if v6 = v9 then (H5_firstWrong_2 (d + 1) Th Q a0 a1 x2 (x3 + 1) M8) else (Q x3 M8))))))))) : H5_firstWrong_2 (d + 1) Th Q a0 a1 x2 x3 M := by
  show m_W (d + 1) 0 0 yX5_firstWrong cX5_firstWrong 4 (some .int) (m_qi Th Q) 2 [(0, .ref a0), (1, .ref a1), (2, .int x2), (3, .int x3)] [] Th M 0 0
  refine m_iload_n dX5_firstWrong_2 rfl 3 rfl ?_
  refine m_iconst (v := 3) dX5_firstWrong_3 (by decide) ?_
  refine m_iload_n dX5_firstWrong_4 rfl 2 rfl ?_
  refine m_imul dX5_firstWrong_5 ?_
  refine m_icmp_ge (tgt := 45) dX5_firstWrong_6 (by decide) (fun c1 => ?_) (fun c1 => ?_)
  · rw [if_pos c1] at h
    refine m_iload_n dX5_firstWrong_45 rfl 2 rfl ?_
    refine m_aload_n dX5_firstWrong_46 rfl 0 rfl ?_
    obtain ⟨q1, h⟩ := h
    refine m_geti f_X5_15 rfl dX5_firstWrong_47 q1 ?_
    have hJ : m_W (d + 1) 0 0 yX5_firstWrong cX5_firstWrong 4 (some .int) (m_qi Th Q) 60 [(0, .ref a0), (1, .ref a1), (2, .int x2), (3, .int x3)] [.int ((if ((M).1 a0 1) ≤ x2 then (-1) else (3 * x2)))] Th M 0 0 := by
      exact m_ireturn dX5_firstWrong_60 rfl rfl ⟨rfl, _, rfl, h⟩
    refine m_icmp_ge (tgt := 59) dX5_firstWrong_50 (by decide) (fun c1 => ?_) (fun c1 => ?_)
    · simp only [if_pos c1] at hJ
      refine m_iconst (v := (-1)) dX5_firstWrong_59 (by decide) ?_
      exact hJ
    · simp only [if_neg c1] at hJ
      refine m_iconst (v := 3) dX5_firstWrong_53 (by decide) ?_
      refine m_iload_n dX5_firstWrong_54 rfl 2 rfl ?_
      refine m_imul dX5_firstWrong_55 ?_
      refine m_goto (tgt := 60) dX5_firstWrong_56 (by decide) ?_
      exact hJ
  · rw [if_neg c1] at h
    refine m_aload_n dX5_firstWrong_9 rfl 0 rfl ?_
    refine m_iload_n dX5_firstWrong_10 rfl 3 rfl ?_
    refine m_iconst (v := 3) dX5_firstWrong_11 (by decide) ?_
    refine m_idiv dX5_firstWrong_12 (by decide) ?_
    obtain ⟨q4, h⟩ := h
    refine m_invV (ci := 5) (As := [.int ((x3 / 3))]) (d' := d) (mc' := 0) (ms' := 0) (rest := []) i_5_has v_5_has t_5_has l_X5_19 ⟨_, _, rfl⟩ dX5_firstWrong_13 rfl rfl q4 (Nat.le_of_ble_eq_true rfl) (Nat.le_refl _) ⟨Nat.le_refl _, Nat.le_refl _⟩ (m_Ci h (fun v3 M2 h => ?_))
    show m_W (d + 1) 0 0 yX5_firstWrong cX5_firstWrong 4 (some .int) (m_qi Th Q) 16 [(0, .ref a0), (1, .ref a1), (2, .int x2), (3, .int x3)] [.int v3] Th M2 0 0
    refine m_if_eq (tgt := 37) dX5_firstWrong_16 (by decide) (fun c1 => ?_) (fun c1 => ?_)
    · rw [if_pos c1] at h
      refine m_iload_n dX5_firstWrong_37 rfl 3 rfl ?_
      exact m_ireturn dX5_firstWrong_38 rfl rfl ⟨rfl, _, rfl, h⟩
    · rw [if_neg c1] at h
      refine m_aload_n dX5_firstWrong_19 rfl 1 rfl ?_
      refine m_iload_n dX5_firstWrong_20 rfl 3 rfl ?_
      obtain ⟨q7, h⟩ := h
      refine m_invV (ci := 9) (As := [.int x3]) (d' := d) (mc' := 0) (ms' := 0) (rest := []) i_9_numberAt v_9_numberAt t_9_numberAt l_X5_31 ⟨_, _, rfl⟩ dX5_firstWrong_21 rfl rfl q7 (Nat.le_of_ble_eq_true rfl) (Nat.le_refl _) ⟨Nat.le_refl _, Nat.le_refl _⟩ (m_Ci h (fun v6 M5 h => ?_))
      show m_W (d + 1) 0 0 yX5_firstWrong cX5_firstWrong 4 (some .int) (m_qi Th Q) 24 [(0, .ref a0), (1, .ref a1), (2, .int x2), (3, .int x3)] [.int v6] Th M5 0 0
      refine m_aload_n dX5_firstWrong_24 rfl 0 rfl ?_
      refine m_iload_n dX5_firstWrong_25 rfl 3 rfl ?_
      refine m_iconst (v := 3) dX5_firstWrong_26 (by decide) ?_
      refine m_idiv dX5_firstWrong_27 (by decide) ?_
      refine m_iload_n dX5_firstWrong_28 rfl 3 rfl ?_
      refine m_iconst (v := 3) dX5_firstWrong_29 (by decide) ?_
      refine m_irem dX5_firstWrong_30 (by decide) ?_
      refine m_invV (ci := 5) (As := [.int ((x3 / 3)), .int ((x3 - x3 / 3 * 3))]) (d' := d) (mc' := 0) (ms' := 0) (rest := [.int v6]) i_5_entry v_5_entry t_5_entry l_X5_27 ⟨_, _, rfl⟩ dX5_firstWrong_31 rfl rfl q4 (Nat.le_of_ble_eq_true rfl) (Nat.le_refl _) ⟨Nat.le_refl _, Nat.le_refl _⟩ (m_Ci h (fun v9 M8 h => ?_))
      show m_W (d + 1) 0 0 yX5_firstWrong cX5_firstWrong 4 (some .int) (m_qi Th Q) 34 [(0, .ref a0), (1, .ref a1), (2, .int x2), (3, .int x3)] [.int v9, .int v6] Th M8 0 0
      refine m_icmp_eq (tgt := 39) dX5_firstWrong_34 (by decide) (fun c1 => ?_) (fun c1 => ?_)
      · rw [if_pos c1] at h
        refine m_iinc (v := x3 + 1) (lv' := [(3, .int (x3 + 1)), (0, .ref a0), (1, .ref a1), (2, .int x2)]) dX5_firstWrong_39 3 rfl rfl (by decide) rfl ?_
        refine m_goto (tgt := 2) dX5_firstWrong_42 (by decide) ?_
        exact m_sub [1, 2, 3, 0] rfl h
      · rw [if_neg c1] at h
        refine m_iload_n dX5_firstWrong_37 rfl 3 rfl ?_
        exact m_ireturn dX5_firstWrong_38 rfl rfl ⟨rfl, _, rfl, h⟩
set_option maxHeartbeats 4000000 in
set_option maxRecDepth 100000 in
theorem e5_firstWrong {d : Nat} {Th : mT} {Q : Int32 → mM → Prop} {a0 : Nat} {a1 : Nat} {x2 : Int32} {M : mM} (h : H5_firstWrong_2 (d + 1) Th Q a0 a1 x2 0 M) : P5_firstWrong (d + 1) Th a0 a1 x2 M Q := by
  refine m_C.of (by decide +kernel) (Nat.le_of_ble_eq_true rfl) ?_
  show m_W (d + 1) 0 0 yX5_firstWrong cX5_firstWrong 4 (some .int) (m_qi Th Q) 0 [(0, .ref a0), (1, .ref a1), (2, .int x2)] [] Th M 0 0
  refine m_iconst (v := 0) dX5_firstWrong_0 (by decide) ?_
  refine m_istore_n (lv' := [(3, .int 0), (0, .ref a0), (1, .ref a1), (2, .int x2)]) dX5_firstWrong_1 rfl (by decide) rfl ?_
  exact m_sub [1, 2, 3, 0] rfl h
